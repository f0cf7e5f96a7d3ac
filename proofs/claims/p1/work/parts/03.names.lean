def RX0 : String := "RunwayLoom$Aircraft"
def TX0 : u_T := fun k => match k with
  | 0 => ("RunwayLoom$Aircraft", "family", "I", false)
  | 1 => ("RunwayLoom$Aircraft", "airport", "I", false)
  | 2 => ("RunwayLoom$Aircraft", "turn", "I", false)
  | 3 => ("RunwayLoom$Aircraft", "seats", "I", false)
  | 4 => ("RunwayLoom$Aircraft", "minutes", "I", false)
  | 5 => ("RunwayLoom$Aircraft", "landings", "I", false)
  | _ => ("RunwayLoom$Aircraft", "faults", "I", false)
def tyX0 : Nat → FieldType := fun k => match k with
  | 0 => .int
  | 1 => .int
  | 2 => .int
  | 3 => .int
  | 4 => .int
  | 5 => .int
  | _ => .int
abbrev wsX00 : List Cond := u_ws RX0 TX0 7
theorem nmX0 : ∀ a, a < 7 → ∀ b, b < 7 → a ≠ b → (TX0 a).2.1 ≠ (TX0 b).2.1 := by decide +kernel
theorem tyX0_ok : ∀ k, k < 7 → parseFieldDescriptor (TX0 k).2.2.1 = some (tyX0 k) := by decide +kernel
abbrev cX0_init : ByteArray := prog_2_method_1_code
def yX0_init : MethodName := ⟨RX0, "<init>", "()V"⟩
def RX1 : String := "RunwayLoom$Carrier"
def TX1 : u_T := fun k => match k with
  | 0 => ("RunwayLoom$Carrier", "airport", "I", false)
  | 1 => ("RunwayLoom$Carrier", "lastFlight", "I", false)
  | 2 => ("RunwayLoom$Carrier", "landings", "I", false)
  | 3 => ("RunwayLoom$Carrier", "minutes", "I", false)
  | _ => ("RunwayLoom$Carrier", "faults", "I", false)
def tyX1 : Nat → FieldType := fun k => match k with
  | 0 => .int
  | 1 => .int
  | 2 => .int
  | 3 => .int
  | _ => .int
abbrev wsX10 : List Cond := u_ws RX1 TX1 5
theorem nmX1 : ∀ a, a < 5 → ∀ b, b < 5 → a ≠ b → (TX1 a).2.1 ≠ (TX1 b).2.1 := by decide +kernel
theorem tyX1_ok : ∀ k, k < 5 → parseFieldDescriptor (TX1 k).2.2.1 = some (tyX1 k) := by decide +kernel
abbrev cX1_init : ByteArray := prog_3_method_1_code
def yX1_init : MethodName := ⟨RX1, "<init>", "()V"⟩
abbrev cX1_begin : ByteArray := prog_3_method_2_code
def yX1_begin : MethodName := ⟨RX1, "begin", "(I)V"⟩
def RX2 : String := "RunwayLoom$Course"
def TX2 : u_T := fun k => match k with
  | 0 => ("RunwayLoom$Course", "number", "I", true)
  | 1 => ("RunwayLoom$Course", "flight", "LRunwayLoom$Flight;", true)
  | 2 => ("RunwayLoom$Course", "state", "C", false)
  | 3 => ("RunwayLoom$Course", "due", "I", false)
  | 4 => ("RunwayLoom$Course", "next", "I", false)
  | 5 => ("RunwayLoom$Course", "slot", "I", false)
  | 6 => ("RunwayLoom$Course", "letter", "C", false)
  | 7 => ("RunwayLoom$Course", "shut", "I", false)
  | 8 => ("RunwayLoom$Course", "onPad", "I", false)
  | 9 => ("RunwayLoom$Course", "takenOff", "I", false)
  | 10 => ("RunwayLoom$Course", "landed", "I", false)
  | 11 => ("RunwayLoom$Course", "ended", "I", false)
  | 12 => ("RunwayLoom$Course", "stand", "I", false)
  | 13 => ("RunwayLoom$Course", "bags", "I", false)
  | 14 => ("RunwayLoom$Course", "iced", "I", false)
  | 15 => ("RunwayLoom$Course", "slotted", "I", false)
  | 16 => ("RunwayLoom$Course", "queued", "I", false)
  | 17 => ("RunwayLoom$Course", "waitedKind", "C", false)
  | _ => ("RunwayLoom$Course", "waitedFlight", "I", false)
def tyX2 : Nat → FieldType := fun k => match k with
  | 0 => .int
  | 1 => .object "RunwayLoom$Flight"
  | 2 => .char
  | 3 => .int
  | 4 => .int
  | 5 => .int
  | 6 => .char
  | 7 => .int
  | 8 => .int
  | 9 => .int
  | 10 => .int
  | 11 => .int
  | 12 => .int
  | 13 => .int
  | 14 => .int
  | 15 => .int
  | 16 => .int
  | 17 => .char
  | _ => .int
abbrev wsX20 : List Cond := u_ws RX2 TX2 19
theorem nmX2 : ∀ a, a < 19 → ∀ b, b < 19 → a ≠ b → (TX2 a).2.1 ≠ (TX2 b).2.1 := by decide +kernel
theorem tyX2_ok : ∀ k, k < 19 → parseFieldDescriptor (TX2 k).2.2.1 = some (tyX2 k) := by decide +kernel
abbrev cX2_init : ByteArray := prog_4_method_1_code
def yX2_init : MethodName := ⟨RX2, "<init>", "(ILRunwayLoom$Flight;)V"⟩
abbrev cX2_begin : ByteArray := prog_4_method_2_code
def yX2_begin : MethodName := ⟨RX2, "begin", "()V"⟩
abbrev cX2_isOver : ByteArray := prog_4_method_3_code
def yX2_isOver : MethodName := ⟨RX2, "isOver", "()Z"⟩
abbrev cX2_isOnPad : ByteArray := prog_4_method_4_code
def yX2_isOnPad : MethodName := ⟨RX2, "isOnPad", "(I)Z"⟩
abbrev cX2_isIcedOff : ByteArray := prog_4_method_5_code
def yX2_isIcedOff : MethodName := ⟨RX2, "isIcedOff", "(I)Z"⟩
abbrev cX2_hasCause : ByteArray := prog_4_method_6_code
def yX2_hasCause : MethodName := ⟨RX2, "hasCause", "()Z"⟩
abbrev cX2_letterOfCause : ByteArray := prog_4_method_7_code
def yX2_letterOfCause : MethodName := ⟨RX2, "letterOfCause", "()C"⟩
def RX3 : String := "RunwayLoom$Crew"
def TX3 : u_T := fun k => match k with
  | 0 => ("RunwayLoom$Crew", "airport", "I", false)
  | 1 => ("RunwayLoom$Crew", "report", "I", false)
  | 2 => ("RunwayLoom$Crew", "families", "I", false)
  | _ => ("RunwayLoom$Crew", "isRested", "Z", false)
def tyX3 : Nat → FieldType := fun k => match k with
  | 0 => .int
  | 1 => .int
  | 2 => .int
  | _ => .boolean
abbrev wsX30 : List Cond := u_ws RX3 TX3 4
theorem nmX3 : ∀ a, a < 4 → ∀ b, b < 4 → a ≠ b → (TX3 a).2.1 ≠ (TX3 b).2.1 := by decide +kernel
theorem tyX3_ok : ∀ k, k < 4 → parseFieldDescriptor (TX3 k).2.2.1 = some (tyX3 k) := by decide +kernel
abbrev cX3_init : ByteArray := prog_5_method_1_code
def yX3_init : MethodName := ⟨RX3, "<init>", "()V"⟩
abbrev cX3_limit : ByteArray := prog_5_method_2_code
def yX3_limit : MethodName := ⟨RX3, "limit", "(I)I"⟩
def RX4 : String := "RunwayLoom$Day"
def TX4 : u_T := fun k => match k with
  | 0 => ("RunwayLoom$Day", "plan", "LRunwayLoom$Plan;", true)
  | 1 => ("RunwayLoom$Day", "courses", "[LRunwayLoom$Course;", true)
  | 2 => ("RunwayLoom$Day", "line", "[LRunwayLoom$Course;", true)
  | 3 => ("RunwayLoom$Day", "planes", "[LRunwayLoom$Carrier;", true)
  | 4 => ("RunwayLoom$Day", "crews", "[LRunwayLoom$Carrier;", true)
  | 5 => ("RunwayLoom$Day", "journeys", "[LRunwayLoom$Journey;", true)
  | 6 => ("RunwayLoom$Day", "holders", "[I", true)
  | 7 => ("RunwayLoom$Day", "isDone", "[Z", true)
  | 8 => ("RunwayLoom$Day", "log", "LRunwayLoom$Log;", true)
  | 9 => ("RunwayLoom$Day", "lineLength", "I", false)
  | 10 => ("RunwayLoom$Day", "minute", "I", false)
  | 11 => ("RunwayLoom$Day", "runwayMinute", "I", false)
  | 12 => ("RunwayLoom$Day", "runwayFamily", "I", false)
  | 13 => ("RunwayLoom$Day", "missed", "I", false)
  | 14 => ("RunwayLoom$Day", "lateBags", "I", false)
  | 15 => ("RunwayLoom$Day", "latestPresent", "I", false)
  | 16 => ("RunwayLoom$Day", "latestBy", "I", false)
  | _ => ("RunwayLoom$Day", "isCrewed", "Z", false)
def tyX4 : Nat → FieldType := fun k => match k with
  | 0 => .object "RunwayLoom$Plan"
  | 1 => .array (.object "RunwayLoom$Course")
  | 2 => .array (.object "RunwayLoom$Course")
  | 3 => .array (.object "RunwayLoom$Carrier")
  | 4 => .array (.object "RunwayLoom$Carrier")
  | 5 => .array (.object "RunwayLoom$Journey")
  | 6 => .array .int
  | 7 => .array .boolean
  | 8 => .object "RunwayLoom$Log"
  | 9 => .int
  | 10 => .int
  | 11 => .int
  | 12 => .int
  | 13 => .int
  | 14 => .int
  | 15 => .int
  | 16 => .int
  | _ => .boolean
abbrev wsX40 : List Cond := u_ws RX4 TX4 18
theorem nmX4 : ∀ a, a < 18 → ∀ b, b < 18 → a ≠ b → (TX4 a).2.1 ≠ (TX4 b).2.1 := by decide +kernel
theorem tyX4_ok : ∀ k, k < 18 → parseFieldDescriptor (TX4 k).2.2.1 = some (tyX4 k) := by decide +kernel
abbrev cX4_init : ByteArray := prog_6_method_1_code
def yX4_init : MethodName := ⟨RX4, "<init>", "(LRunwayLoom$Plan;)V"⟩
abbrev cX4_run : ByteArray := prog_6_method_2_code
def yX4_run : MethodName := ⟨RX4, "run", "()V"⟩
abbrev cX4_startAnew : ByteArray := prog_6_method_3_code
def yX4_startAnew : MethodName := ⟨RX4, "startAnew", "()V"⟩
abbrev cX4_dropToldAhead : ByteArray := prog_6_method_4_code
def yX4_dropToldAhead : MethodName := ⟨RX4, "dropToldAhead", "()V"⟩
abbrev cX4_nextMinute : ByteArray := prog_6_method_5_code
def yX4_nextMinute : MethodName := ⟨RX4, "nextMinute", "()I"⟩
abbrev cX4_lineUp : ByteArray := prog_6_method_6_code
def yX4_lineUp : MethodName := ⟨RX4, "lineUp", "(C)V"⟩
abbrev cX4_readMessages : ByteArray := prog_6_method_7_code
def yX4_readMessages : MethodName := ⟨RX4, "readMessages", "()V"⟩
abbrev cX4_isOutdated : ByteArray := prog_6_method_8_code
def yX4_isOutdated : MethodName := ⟨RX4, "isOutdated", "(LRunwayLoom$Message;)Z"⟩
abbrev cX4_heed : ByteArray := prog_6_method_9_code
def yX4_heed : MethodName := ⟨RX4, "heed", "(LRunwayLoom$Message;LRunwayLoom$Course;)V"⟩
abbrev cX4_drop : ByteArray := prog_6_method_10_code
def yX4_drop : MethodName := ⟨RX4, "drop", "(LRunwayLoom$Course;C)V"⟩
abbrev cX4_land : ByteArray := prog_6_method_11_code
def yX4_land : MethodName := ⟨RX4, "land", "()V"⟩
abbrev cX4_familyOf : ByteArray := prog_6_method_12_code
def yX4_familyOf : MethodName := ⟨RX4, "familyOf", "(LRunwayLoom$Course;)I"⟩
abbrev cX4_isRunwayFree : ByteArray := prog_6_method_13_code
def yX4_isRunwayFree : MethodName := ⟨RX4, "isRunwayFree", "(LRunwayLoom$Course;)Z"⟩
abbrev cX4_gap : ByteArray := prog_6_method_14_code
def yX4_gap : MethodName := ⟨RX4, "gap", "(II)I"⟩
abbrev cX4_useRunway : ByteArray := prog_6_method_15_code
def yX4_useRunway : MethodName := ⟨RX4, "useRunway", "(LRunwayLoom$Course;)V"⟩
abbrev cX4_end : ByteArray := prog_6_method_16_code
def yX4_end : MethodName := ⟨RX4, "end", "(LRunwayLoom$Course;)V"⟩
abbrev cX4_arrive : ByteArray := prog_6_method_17_code
def yX4_arrive : MethodName := ⟨RX4, "arrive", "(LRunwayLoom$Carrier;LRunwayLoom$Course;)V"⟩
abbrev cX4_park : ByteArray := prog_6_method_18_code
def yX4_park : MethodName := ⟨RX4, "park", "()V"⟩
abbrev cX4_freeStand : ByteArray := prog_6_method_19_code
def yX4_freeStand : MethodName := ⟨RX4, "freeStand", "(LRunwayLoom$Course;)I"⟩
abbrev cX4_shutDoors : ByteArray := prog_6_method_20_code
def yX4_shutDoors : MethodName := ⟨RX4, "shutDoors", "()V"⟩
abbrev cX4_answerAtDoors : ByteArray := prog_6_method_21_code
def yX4_answerAtDoors : MethodName := ⟨RX4, "answerAtDoors", "(LRunwayLoom$Course;)C"⟩
abbrev cX4_isOpenAhead : ByteArray := prog_6_method_22_code
def yX4_isOpenAhead : MethodName := ⟨RX4, "isOpenAhead", "(LRunwayLoom$Course;)Z"⟩
abbrev cX4_rested : ByteArray := prog_6_method_23_code
def yX4_rested : MethodName := ⟨RX4, "rested", "(LRunwayLoom$Carrier;I)I"⟩
abbrev cX4_earliest : ByteArray := prog_6_method_24_code
def yX4_earliest : MethodName := ⟨RX4, "earliest", "(LRunwayLoom$Course;)I"⟩
abbrev cX4_isGroupAwaited : ByteArray := prog_6_method_25_code
def yX4_isGroupAwaited : MethodName := ⟨RX4, "isGroupAwaited", "(LRunwayLoom$Course;)Z"⟩
abbrev cX4_since : ByteArray := prog_6_method_26_code
def yX4_since : MethodName := ⟨RX4, "since", "(LRunwayLoom$Journey;LRunwayLoom$Course;II)I"⟩
abbrev cX4_lawAtDoors : ByteArray := prog_6_method_27_code
def yX4_lawAtDoors : MethodName := ⟨RX4, "lawAtDoors", "(LRunwayLoom$Course;)C"⟩
abbrev cX4_isBeyondLimit : ByteArray := prog_6_method_28_code
def yX4_isBeyondLimit : MethodName := ⟨RX4, "isBeyondLimit", "(LRunwayLoom$Course;I)Z"⟩
abbrev cX4_closeDoors : ByteArray := prog_6_method_29_code
def yX4_closeDoors : MethodName := ⟨RX4, "closeDoors", "(LRunwayLoom$Course;)V"⟩
abbrev cX4_board : ByteArray := prog_6_method_30_code
def yX4_board : MethodName := ⟨RX4, "board", "(LRunwayLoom$Course;)V"⟩
abbrev cX4_stayBehind : ByteArray := prog_6_method_31_code
def yX4_stayBehind : MethodName := ⟨RX4, "stayBehind", "(LRunwayLoom$Journey;LRunwayLoom$Course;)V"⟩
abbrev cX4_goOnBoard : ByteArray := prog_6_method_32_code
def yX4_goOnBoard : MethodName := ⟨RX4, "goOnBoard", "(LRunwayLoom$Journey;LRunwayLoom$Group;LRunwayLoom$Course;)V"⟩
abbrev cX4_findWaited : ByteArray := prog_6_method_33_code
def yX4_findWaited : MethodName := ⟨RX4, "findWaited", "(LRunwayLoom$Course;)V"⟩
abbrev cX4_goOnPads : ByteArray := prog_6_method_34_code
def yX4_goOnPads : MethodName := ⟨RX4, "goOnPads", "()V"⟩
abbrev cX4_busyPads : ByteArray := prog_6_method_35_code
def yX4_busyPads : MethodName := ⟨RX4, "busyPads", "()I"⟩
abbrev cX4_takeOff : ByteArray := prog_6_method_36_code
def yX4_takeOff : MethodName := ⟨RX4, "takeOff", "()V"⟩
abbrev cX4_isKept : ByteArray := prog_6_method_37_code
def yX4_isKept : MethodName := ⟨RX4, "isKept", "(LRunwayLoom$Course;)Z"⟩
abbrev cX4_leave : ByteArray := prog_6_method_38_code
def yX4_leave : MethodName := ⟨RX4, "leave", "(LRunwayLoom$Course;)V"⟩
abbrev cX4_bookAnew : ByteArray := prog_6_method_39_code
def yX4_bookAnew : MethodName := ⟨RX4, "bookAnew", "()V"⟩
abbrev cX4_bookGroup : ByteArray := prog_6_method_40_code
def yX4_bookGroup : MethodName := ⟨RX4, "bookGroup", "(LRunwayLoom$Journey;LRunwayLoom$Group;)V"⟩
abbrev cX4_isFit : ByteArray := prog_6_method_41_code
def yX4_isFit : MethodName := ⟨RX4, "isFit", "(LRunwayLoom$Course;LRunwayLoom$Journey;LRunwayLoom$Group;)Z"⟩
abbrev cX4_booked : ByteArray := prog_6_method_42_code
def yX4_booked : MethodName := ⟨RX4, "booked", "(LRunwayLoom$Course;)I"⟩
abbrev cX4_rootOf : ByteArray := prog_6_method_43_code
def yX4_rootOf : MethodName := ⟨RX4, "rootOf", "(LRunwayLoom$Course;)LRunwayLoom$Course;"⟩
abbrev cX4_minutesLate : ByteArray := prog_6_method_44_code
def yX4_minutesLate : MethodName := ⟨RX4, "minutesLate", "(I)I"⟩
abbrev cX4_sumOfLateness : ByteArray := prog_6_method_45_code
def yX4_sumOfLateness : MethodName := ⟨RX4, "sumOfLateness", "()I"⟩
abbrev cX4_sumOfHarm : ByteArray := prog_6_method_46_code
def yX4_sumOfHarm : MethodName := ⟨RX4, "sumOfHarm", "()I"⟩
abbrev cX4_sumOfPay : ByteArray := prog_6_method_47_code
def yX4_sumOfPay : MethodName := ⟨RX4, "sumOfPay", "()I"⟩
abbrev cX4_isExcused : ByteArray := prog_6_method_48_code
def yX4_isExcused : MethodName := ⟨RX4, "isExcused", "(LRunwayLoom$Journey;)Z"⟩
abbrev cX4_isLawful : ByteArray := prog_6_method_49_code
def yX4_isLawful : MethodName := ⟨RX4, "isLawful", "()Z"⟩
abbrev cX4_isTooClose : ByteArray := prog_6_method_50_code
def yX4_isTooClose : MethodName := ⟨RX4, "isTooClose", "(LRunwayLoom$Course;LRunwayLoom$Course;)Z"⟩
abbrev cX4_homeMinute : ByteArray := prog_6_method_51_code
def yX4_homeMinute : MethodName := ⟨RX4, "homeMinute", "(LRunwayLoom$Course;)I"⟩
abbrev cX4_isStandShared : ByteArray := prog_6_method_52_code
def yX4_isStandShared : MethodName := ⟨RX4, "isStandShared", "(LRunwayLoom$Course;LRunwayLoom$Course;)Z"⟩
abbrev cX4_standLeft : ByteArray := prog_6_method_53_code
def yX4_standLeft : MethodName := ⟨RX4, "standLeft", "(LRunwayLoom$Course;)I"⟩
def RX5 : String := "RunwayLoom$Flight"
def TX5 : u_T := fun k => match k with
  | 0 => ("RunwayLoom$Flight", "from", "I", false)
  | 1 => ("RunwayLoom$Flight", "to", "I", false)
  | 2 => ("RunwayLoom$Flight", "off", "I", false)
  | 3 => ("RunwayLoom$Flight", "aircraft", "I", false)
  | 4 => ("RunwayLoom$Flight", "crew", "I", false)
  | 5 => ("RunwayLoom$Flight", "hold", "I", false)
  | 6 => ("RunwayLoom$Flight", "wait", "I", false)
  | 7 => ("RunwayLoom$Flight", "slot", "I", false)
  | 8 => ("RunwayLoom$Flight", "isBeyondBorder", "Z", false)
  | _ => ("RunwayLoom$Flight", "isCancelled", "Z", false)
def tyX5 : Nat → FieldType := fun k => match k with
  | 0 => .int
  | 1 => .int
  | 2 => .int
  | 3 => .int
  | 4 => .int
  | 5 => .int
  | 6 => .int
  | 7 => .int
  | 8 => .boolean
  | _ => .boolean
abbrev wsX50 : List Cond := u_ws RX5 TX5 10
theorem nmX5 : ∀ a, a < 10 → ∀ b, b < 10 → a ≠ b → (TX5 a).2.1 ≠ (TX5 b).2.1 := by decide +kernel
theorem tyX5_ok : ∀ k, k < 10 → parseFieldDescriptor (TX5 k).2.2.1 = some (tyX5 k) := by decide +kernel
abbrev cX5_init : ByteArray := prog_7_method_1_code
def yX5_init : MethodName := ⟨RX5, "<init>", "()V"⟩
def RX6 : String := "RunwayLoom$Group"
def TX6 : u_T := fun k => match k with
  | 0 => ("RunwayLoom$Group", "first", "I", false)
  | 1 => ("RunwayLoom$Group", "second", "I", false)
  | 2 => ("RunwayLoom$Group", "people", "I", false)
  | 3 => ("RunwayLoom$Group", "rank", "I", false)
  | _ => ("RunwayLoom$Group", "hasVisa", "Z", false)
def tyX6 : Nat → FieldType := fun k => match k with
  | 0 => .int
  | 1 => .int
  | 2 => .int
  | 3 => .int
  | _ => .boolean
abbrev wsX60 : List Cond := u_ws RX6 TX6 5
theorem nmX6 : ∀ a, a < 5 → ∀ b, b < 5 → a ≠ b → (TX6 a).2.1 ≠ (TX6 b).2.1 := by decide +kernel
theorem tyX6_ok : ∀ k, k < 5 → parseFieldDescriptor (TX6 k).2.2.1 = some (tyX6 k) := by decide +kernel
abbrev cX6_init : ByteArray := prog_8_method_1_code
def yX6_init : MethodName := ⟨RX6, "<init>", "()V"⟩
abbrev cX6_last : ByteArray := prog_8_method_2_code
def yX6_last : MethodName := ⟨RX6, "last", "()I"⟩
def RX7 : String := "RunwayLoom$Journey"
def TX7 : u_T := fun k => match k with
  | 0 => ("RunwayLoom$Journey", "next", "I", false)
  | 1 => ("RunwayLoom$Journey", "taken", "I", false)
  | 2 => ("RunwayLoom$Journey", "isLast", "Z", false)
  | 3 => ("RunwayLoom$Journey", "isLeft", "Z", false)
  | _ => ("RunwayLoom$Journey", "isStranded", "Z", false)
def tyX7 : Nat → FieldType := fun k => match k with
  | 0 => .int
  | 1 => .int
  | 2 => .boolean
  | 3 => .boolean
  | _ => .boolean
abbrev wsX70 : List Cond := u_ws RX7 TX7 5
theorem nmX7 : ∀ a, a < 5 → ∀ b, b < 5 → a ≠ b → (TX7 a).2.1 ≠ (TX7 b).2.1 := by decide +kernel
theorem tyX7_ok : ∀ k, k < 5 → parseFieldDescriptor (TX7 k).2.2.1 = some (tyX7 k) := by decide +kernel
abbrev cX7_init : ByteArray := prog_9_method_1_code
def yX7_init : MethodName := ⟨RX7, "<init>", "()V"⟩
abbrev cX7_begin : ByteArray := prog_9_method_2_code
def yX7_begin : MethodName := ⟨RX7, "begin", "(LRunwayLoom$Group;)V"⟩
abbrev cX7_isFor : ByteArray := prog_9_method_3_code
def yX7_isFor : MethodName := ⟨RX7, "isFor", "(LRunwayLoom$Course;)Z"⟩
def RX8 : String := "RunwayLoom$Log"
def TX8 : u_T := fun k => match k with
  | 0 => ("RunwayLoom$Log", "signs", "[C", true)
  | _ => ("RunwayLoom$Log", "length", "I", false)
def tyX8 : Nat → FieldType := fun k => match k with
  | 0 => .array .char
  | _ => .int
abbrev wsX80 : List Cond := u_ws RX8 TX8 2
theorem nmX8 : ∀ a, a < 2 → ∀ b, b < 2 → a ≠ b → (TX8 a).2.1 ≠ (TX8 b).2.1 := by decide +kernel
theorem tyX8_ok : ∀ k, k < 2 → parseFieldDescriptor (TX8 k).2.2.1 = some (tyX8 k) := by decide +kernel
abbrev cX8_init : ByteArray := prog_10_method_1_code
def yX8_init : MethodName := ⟨RX8, "<init>", "()V"⟩
abbrev cX8_note : ByteArray := prog_10_method_2_code
def yX8_note : MethodName := ⟨RX8, "note", "(ICI)V"⟩
abbrev cX8_put : ByteArray := prog_10_method_3_code
def yX8_put : MethodName := ⟨RX8, "put", "(C)V"⟩
abbrev cX8_isSame : ByteArray := prog_10_method_4_code
def yX8_isSame : MethodName := ⟨RX8, "isSame", "(LRunwayLoom$Log;)Z"⟩
def RX9 : String := "RunwayLoom$Message"
def TX9 : u_T := fun k => match k with
  | 0 => ("RunwayLoom$Message", "kind", "C", false)
  | 1 => ("RunwayLoom$Message", "flight", "I", false)
  | 2 => ("RunwayLoom$Message", "number", "I", false)
  | 3 => ("RunwayLoom$Message", "happened", "I", false)
  | _ => ("RunwayLoom$Message", "comes", "I", false)
def tyX9 : Nat → FieldType := fun k => match k with
  | 0 => .char
  | 1 => .int
  | 2 => .int
  | 3 => .int
  | _ => .int
abbrev wsX90 : List Cond := u_ws RX9 TX9 5
theorem nmX9 : ∀ a, a < 5 → ∀ b, b < 5 → a ≠ b → (TX9 a).2.1 ≠ (TX9 b).2.1 := by decide +kernel
theorem tyX9_ok : ∀ k, k < 5 → parseFieldDescriptor (TX9 k).2.2.1 = some (tyX9 k) := by decide +kernel
abbrev cX9_init : ByteArray := prog_11_method_1_code
def yX9_init : MethodName := ⟨RX9, "<init>", "()V"⟩
def RX10 : String := "RunwayLoom$Plan"
def TX10 : u_T := fun k => match k with
  | 0 => ("RunwayLoom$Plan", "flying", "[I", true)
  | 1 => ("RunwayLoom$Plan", "aircraft", "[LRunwayLoom$Aircraft;", true)
  | 2 => ("RunwayLoom$Plan", "crews", "[LRunwayLoom$Crew;", true)
  | 3 => ("RunwayLoom$Plan", "flights", "[LRunwayLoom$Flight;", true)
  | 4 => ("RunwayLoom$Plan", "groups", "[LRunwayLoom$Group;", true)
  | 5 => ("RunwayLoom$Plan", "messages", "[LRunwayLoom$Message;", true)
  | 6 => ("RunwayLoom$Plan", "standFamilies", "[I", true)
  | 7 => ("RunwayLoom$Plan", "standBorders", "[Z", true)
  | 8 => ("RunwayLoom$Plan", "turns", "[I", true)
  | 9 => ("RunwayLoom$Plan", "aircraftCount", "I", false)
  | 10 => ("RunwayLoom$Plan", "crewCount", "I", false)
  | 11 => ("RunwayLoom$Plan", "flightCount", "I", false)
  | 12 => ("RunwayLoom$Plan", "groupCount", "I", false)
  | 13 => ("RunwayLoom$Plan", "messageCount", "I", false)
  | 14 => ("RunwayLoom$Plan", "standCount", "I", false)
  | 15 => ("RunwayLoom$Plan", "turnCount", "I", false)
  | 16 => ("RunwayLoom$Plan", "iceFrom", "I", false)
  | 17 => ("RunwayLoom$Plan", "iceTo", "I", false)
  | _ => ("RunwayLoom$Plan", "pads", "I", false)
def tyX10 : Nat → FieldType := fun k => match k with
  | 0 => .array .int
  | 1 => .array (.object "RunwayLoom$Aircraft")
  | 2 => .array (.object "RunwayLoom$Crew")
  | 3 => .array (.object "RunwayLoom$Flight")
  | 4 => .array (.object "RunwayLoom$Group")
  | 5 => .array (.object "RunwayLoom$Message")
  | 6 => .array .int
  | 7 => .array .boolean
  | 8 => .array .int
  | 9 => .int
  | 10 => .int
  | 11 => .int
  | 12 => .int
  | 13 => .int
  | 14 => .int
  | 15 => .int
  | 16 => .int
  | 17 => .int
  | _ => .int
abbrev wsX100 : List Cond := u_ws RX10 TX10 19
theorem nmX10 : ∀ a, a < 19 → ∀ b, b < 19 → a ≠ b → (TX10 a).2.1 ≠ (TX10 b).2.1 := by decide +kernel
theorem tyX10_ok : ∀ k, k < 19 → parseFieldDescriptor (TX10 k).2.2.1 = some (tyX10 k) := by decide +kernel
abbrev cX10_init : ByteArray := prog_12_method_1_code
def yX10_init : MethodName := ⟨RX10, "<init>", "()V"⟩
abbrev cX10_flyingTime : ByteArray := prog_12_method_2_code
def yX10_flyingTime : MethodName := ⟨RX10, "flyingTime", "(LRunwayLoom$Flight;)I"⟩
abbrev cX10_isAhead : ByteArray := prog_12_method_3_code
def yX10_isAhead : MethodName := ⟨RX10, "isAhead", "(II)Z"⟩
abbrev cX10_hasIce : ByteArray := prog_12_method_4_code
def yX10_hasIce : MethodName := ⟨RX10, "hasIce", "(I)Z"⟩
abbrev cX10_isClosed : ByteArray := prog_12_method_5_code
def yX10_isClosed : MethodName := ⟨RX10, "isClosed", "(I)Z"⟩
def RX11 : String := "RunwayLoom"
def TX11 : u_T := fun k => match k with
  | 0 => ("RunwayLoom", "plan", "LRunwayLoom$Plan;", true)
  | 1 => ("RunwayLoom", "day", "LRunwayLoom$Day;", true)
  | 2 => ("RunwayLoom", "again", "LRunwayLoom$Day;", true)
  | 3 => ("RunwayLoom", "chosen", "[I", true)
  | 4 => ("RunwayLoom", "savedHolds", "[I", true)
  | 5 => ("RunwayLoom", "savedCancels", "[Z", true)
  | 6 => ("RunwayLoom", "chosenCount", "I", false)
  | _ => ("RunwayLoom", "isRun", "Z", false)
def tyX11 : Nat → FieldType := fun k => match k with
  | 0 => .object "RunwayLoom$Plan"
  | 1 => .object "RunwayLoom$Day"
  | 2 => .object "RunwayLoom$Day"
  | 3 => .array .int
  | 4 => .array .int
  | 5 => .array .boolean
  | 6 => .int
  | _ => .boolean
abbrev wsX110 : List Cond := u_ws RX11 TX11 8
theorem nmX11 : ∀ a, a < 8 → ∀ b, b < 8 → a ≠ b → (TX11 a).2.1 ≠ (TX11 b).2.1 := by decide +kernel
theorem tyX11_ok : ∀ k, k < 8 → parseFieldDescriptor (TX11 k).2.2.1 = some (tyX11 k) := by decide +kernel
abbrev cX11_init : ByteArray := prog_1_method_1_code
def yX11_init : MethodName := ⟨RX11, "<init>", "()V"⟩
abbrev cX11_fly : ByteArray := prog_1_method_2_code
def yX11_fly : MethodName := ⟨RX11, "fly", "(III)I"⟩
abbrev cX11_addAircraft : ByteArray := prog_1_method_3_code
def yX11_addAircraft : MethodName := ⟨RX11, "addAircraft", "(IIIIII)I"⟩
abbrev cX11_fault : ByteArray := prog_1_method_4_code
def yX11_fault : MethodName := ⟨RX11, "fault", "(II)Z"⟩
abbrev cX11_addCrew : ByteArray := prog_1_method_5_code
def yX11_addCrew : MethodName := ⟨RX11, "addCrew", "(IIIZ)I"⟩
abbrev cX11_addStand : ByteArray := prog_1_method_6_code
def yX11_addStand : MethodName := ⟨RX11, "addStand", "(IZ)I"⟩
abbrev cX11_turnRunway : ByteArray := prog_1_method_7_code
def yX11_turnRunway : MethodName := ⟨RX11, "turnRunway", "(I)I"⟩
abbrev cX11_ice : ByteArray := prog_1_method_8_code
def yX11_ice : MethodName := ⟨RX11, "ice", "(II)I"⟩
abbrev cX11_setPads : ByteArray := prog_1_method_9_code
def yX11_setPads : MethodName := ⟨RX11, "setPads", "(I)I"⟩
abbrev cX11_addFlight : ByteArray := prog_1_method_10_code
def yX11_addFlight : MethodName := ⟨RX11, "addFlight", "(IIIII)I"⟩
abbrev cX11_slot : ByteArray := prog_1_method_11_code
def yX11_slot : MethodName := ⟨RX11, "slot", "(II)I"⟩
abbrev cX11_trade : ByteArray := prog_1_method_12_code
def yX11_trade : MethodName := ⟨RX11, "trade", "(II)I"⟩
abbrev cX11_hold : ByteArray := prog_1_method_13_code
def yX11_hold : MethodName := ⟨RX11, "hold", "(II)I"⟩
abbrev cX11_waitFor : ByteArray := prog_1_method_14_code
def yX11_waitFor : MethodName := ⟨RX11, "waitFor", "(II)I"⟩
abbrev cX11_swap : ByteArray := prog_1_method_15_code
def yX11_swap : MethodName := ⟨RX11, "swap", "(II)I"⟩
abbrev cX11_cancel : ByteArray := prog_1_method_16_code
def yX11_cancel : MethodName := ⟨RX11, "cancel", "(I)Z"⟩
abbrev cX11_addGroup : ByteArray := prog_1_method_17_code
def yX11_addGroup : MethodName := ⟨RX11, "addGroup", "(IIIIZ)I"⟩
abbrev cX11_tell : ByteArray := prog_1_method_18_code
def yX11_tell : MethodName := ⟨RX11, "tell", "(CIIII)I"⟩
abbrev cX11_state : ByteArray := prog_1_method_19_code
def yX11_state : MethodName := ⟨RX11, "state", "(I)C"⟩
abbrev cX11_minuteOf : ByteArray := prog_1_method_20_code
def yX11_minuteOf : MethodName := ⟨RX11, "minuteOf", "(IC)I"⟩
abbrev cX11_standOf : ByteArray := prog_1_method_21_code
def yX11_standOf : MethodName := ⟨RX11, "standOf", "(I)I"⟩
abbrev cX11_cause : ByteArray := prog_1_method_22_code
def yX11_cause : MethodName := ⟨RX11, "cause", "(I)C"⟩
abbrev cX11_root : ByteArray := prog_1_method_23_code
def yX11_root : MethodName := ⟨RX11, "root", "(I)I"⟩
abbrev cX11_lateness : ByteArray := prog_1_method_24_code
def yX11_lateness : MethodName := ⟨RX11, "lateness", "(I)I"⟩
abbrev cX11_lastOf : ByteArray := prog_1_method_25_code
def yX11_lastOf : MethodName := ⟨RX11, "lastOf", "(I)I"⟩
abbrev cX11_isStranded : ByteArray := prog_1_method_26_code
def yX11_isStranded : MethodName := ⟨RX11, "isStranded", "(I)Z"⟩
abbrev cX11_lateBags : ByteArray := prog_1_method_27_code
def yX11_lateBags : MethodName := ⟨RX11, "lateBags", "()I"⟩
abbrev cX11_missed : ByteArray := prog_1_method_28_code
def yX11_missed : MethodName := ⟨RX11, "missed", "()I"⟩
abbrev cX11_harm : ByteArray := prog_1_method_29_code
def yX11_harm : MethodName := ⟨RX11, "harm", "()I"⟩
abbrev cX11_paid : ByteArray := prog_1_method_30_code
def yX11_paid : MethodName := ⟨RX11, "paid", "()I"⟩
abbrev cX11_logLength : ByteArray := prog_1_method_31_code
def yX11_logLength : MethodName := ⟨RX11, "logLength", "()I"⟩
abbrev cX11_logAt : ByteArray := prog_1_method_32_code
def yX11_logAt : MethodName := ⟨RX11, "logAt", "(I)C"⟩
abbrev cX11_recover : ByteArray := prog_1_method_33_code
def yX11_recover : MethodName := ⟨RX11, "recover", "(I)I"⟩
abbrev cX11_isBest : ByteArray := prog_1_method_34_code
def yX11_isBest : MethodName := ⟨RX11, "isBest", "(I)Z"⟩
abbrev cX11_onTimeShare : ByteArray := prog_1_method_35_code
def yX11_onTimeShare : MethodName := ⟨RX11, "onTimeShare", "()F"⟩
abbrev cX11_meanLateness : ByteArray := prog_1_method_36_code
def yX11_meanLateness : MethodName := ⟨RX11, "meanLateness", "()D"⟩
abbrev cX11_isSound : ByteArray := prog_1_method_37_code
def yX11_isSound : MethodName := ⟨RX11, "isSound", "()Z"⟩
abbrev cX11_isWithin : ByteArray := prog_1_method_38_code
def yX11_isWithin : MethodName := ⟨RX11, "isWithin", "(III)Z"⟩
abbrev cX11_requireIndex : ByteArray := prog_1_method_39_code
def yX11_requireIndex : MethodName := ⟨RX11, "requireIndex", "(II)V"⟩
abbrev cX11_requireAirport : ByteArray := prog_1_method_40_code
def yX11_requireAirport : MethodName := ⟨RX11, "requireAirport", "(I)V"⟩
abbrev cX11_requireFlight : ByteArray := prog_1_method_41_code
def yX11_requireFlight : MethodName := ⟨RX11, "requireFlight", "(I)V"⟩
abbrev cX11_require : ByteArray := prog_1_method_42_code
def yX11_require : MethodName := ⟨RX11, "require", "(Z)V"⟩
abbrev cX11_requireSupported : ByteArray := prog_1_method_43_code
def yX11_requireSupported : MethodName := ⟨RX11, "requireSupported", "(Z)V"⟩
abbrev cX11_requireRoom : ByteArray := prog_1_method_44_code
def yX11_requireRoom : MethodName := ⟨RX11, "requireRoom", "(II)V"⟩
abbrev cX11_requireFound : ByteArray := prog_1_method_45_code
def yX11_requireFound : MethodName := ⟨RX11, "requireFound", "(Z)V"⟩
abbrev cX11_requireSome : ByteArray := prog_1_method_46_code
def yX11_requireSome : MethodName := ⟨RX11, "requireSome", "(I)V"⟩
abbrev cX11_today : ByteArray := prog_1_method_47_code
def yX11_today : MethodName := ⟨RX11, "today", "()LRunwayLoom$Day;"⟩
abbrev cX11_choose : ByteArray := prog_1_method_48_code
def yX11_choose : MethodName := ⟨RX11, "choose", "(I)V"⟩
abbrev cX11_choosePlan : ByteArray := prog_1_method_49_code
def yX11_choosePlan : MethodName := ⟨RX11, "choosePlan", "(I)V"⟩
abbrev cX11_leastPlan : ByteArray := prog_1_method_50_code
def yX11_leastPlan : MethodName := ⟨RX11, "leastPlan", "()I"⟩
def RX12 : String := "RunwayLoomModel$Aircraft"
def TX12 : u_T := fun k => match k with
  | 0 => ("RunwayLoomModel$Aircraft", "family", "I", true)
  | 1 => ("RunwayLoomModel$Aircraft", "airport", "I", true)
  | 2 => ("RunwayLoomModel$Aircraft", "turn", "I", true)
  | 3 => ("RunwayLoomModel$Aircraft", "seats", "I", true)
  | 4 => ("RunwayLoomModel$Aircraft", "minutes", "I", true)
  | 5 => ("RunwayLoomModel$Aircraft", "landings", "I", true)
  | _ => ("RunwayLoomModel$Aircraft", "bans", "I", false)
def tyX12 : Nat → FieldType := fun k => match k with
  | 0 => .int
  | 1 => .int
  | 2 => .int
  | 3 => .int
  | 4 => .int
  | 5 => .int
  | _ => .int
abbrev wsX120 : List Cond := u_ws RX12 TX12 7
theorem nmX12 : ∀ a, a < 7 → ∀ b, b < 7 → a ≠ b → (TX12 a).2.1 ≠ (TX12 b).2.1 := by decide +kernel
theorem tyX12_ok : ∀ k, k < 7 → parseFieldDescriptor (TX12 k).2.2.1 = some (tyX12 k) := by decide +kernel
abbrev cX12_init : ByteArray := prog_15_method_1_code
def yX12_init : MethodName := ⟨RX12, "<init>", "(IIIIII)V"⟩
def RX13 : String := "RunwayLoomModel$Course"
def TX13 : u_T := fun k => match k with
  | 0 => ("RunwayLoomModel$Course", "flight", "LRunwayLoomModel$Flight;", true)
  | 1 => ("RunwayLoomModel$Course", "state", "C", false)
  | 2 => ("RunwayLoomModel$Course", "hold", "I", false)
  | 3 => ("RunwayLoomModel$Course", "slot", "I", false)
  | 4 => ("RunwayLoomModel$Course", "doors", "I", false)
  | 5 => ("RunwayLoomModel$Course", "pad", "I", false)
  | 6 => ("RunwayLoomModel$Course", "takeOff", "I", false)
  | 7 => ("RunwayLoomModel$Course", "landing", "I", false)
  | 8 => ("RunwayLoomModel$Course", "end", "I", false)
  | 9 => ("RunwayLoomModel$Course", "stand", "I", false)
  | 10 => ("RunwayLoomModel$Course", "ready", "I", false)
  | 11 => ("RunwayLoomModel$Course", "bags", "I", false)
  | 12 => ("RunwayLoomModel$Course", "ofIce", "I", false)
  | 13 => ("RunwayLoomModel$Course", "ofSlot", "I", false)
  | 14 => ("RunwayLoomModel$Course", "ofRunway", "I", false)
  | 15 => ("RunwayLoomModel$Course", "letter", "C", false)
  | 16 => ("RunwayLoomModel$Course", "cancelledAt", "I", false)
  | 17 => ("RunwayLoomModel$Course", "late", "C", false)
  | _ => ("RunwayLoomModel$Course", "lateBy", "I", false)
def tyX13 : Nat → FieldType := fun k => match k with
  | 0 => .object "RunwayLoomModel$Flight"
  | 1 => .char
  | 2 => .int
  | 3 => .int
  | 4 => .int
  | 5 => .int
  | 6 => .int
  | 7 => .int
  | 8 => .int
  | 9 => .int
  | 10 => .int
  | 11 => .int
  | 12 => .int
  | 13 => .int
  | 14 => .int
  | 15 => .char
  | 16 => .int
  | 17 => .char
  | _ => .int
abbrev wsX130 : List Cond := u_ws RX13 TX13 19
theorem nmX13 : ∀ a, a < 19 → ∀ b, b < 19 → a ≠ b → (TX13 a).2.1 ≠ (TX13 b).2.1 := by decide +kernel
theorem tyX13_ok : ∀ k, k < 19 → parseFieldDescriptor (TX13 k).2.2.1 = some (tyX13 k) := by decide +kernel
abbrev cX13_init : ByteArray := prog_16_method_1_code
def yX13_init : MethodName := ⟨RX13, "<init>", "(LRunwayLoomModel$Flight;)V"⟩
abbrev cX13_due : ByteArray := prog_16_method_2_code
def yX13_due : MethodName := ⟨RX13, "due", "()I"⟩
abbrev cX13_isOnPad : ByteArray := prog_16_method_3_code
def yX13_isOnPad : MethodName := ⟨RX13, "isOnPad", "(I)Z"⟩
abbrev cX13_isClear : ByteArray := prog_16_method_4_code
def yX13_isClear : MethodName := ⟨RX13, "isClear", "(I)Z"⟩
def RX14 : String := "RunwayLoomModel$Crew"
def TX14 : u_T := fun k => match k with
  | 0 => ("RunwayLoomModel$Crew", "airport", "I", true)
  | 1 => ("RunwayLoomModel$Crew", "report", "I", true)
  | 2 => ("RunwayLoomModel$Crew", "families", "I", true)
  | _ => ("RunwayLoomModel$Crew", "isRested", "Z", true)
def tyX14 : Nat → FieldType := fun k => match k with
  | 0 => .int
  | 1 => .int
  | 2 => .int
  | _ => .boolean
abbrev wsX140 : List Cond := u_ws RX14 TX14 4
theorem nmX14 : ∀ a, a < 4 → ∀ b, b < 4 → a ≠ b → (TX14 a).2.1 ≠ (TX14 b).2.1 := by decide +kernel
theorem tyX14_ok : ∀ k, k < 4 → parseFieldDescriptor (TX14 k).2.2.1 = some (tyX14 k) := by decide +kernel
abbrev cX14_init : ByteArray := prog_17_method_1_code
def yX14_init : MethodName := ⟨RX14, "<init>", "(IIIZ)V"⟩
abbrev cX14_limit : ByteArray := prog_17_method_2_code
def yX14_limit : MethodName := ⟨RX14, "limit", "(I)I"⟩
def RX15 : String := "RunwayLoomModel$Day"
def TX15 : u_T := fun k => match k with
  | 0 => ("RunwayLoomModel$Day", "courses", "Ljava/util/List;", true)
  | 1 => ("RunwayLoomModel$Day", "journeys", "Ljava/util/List;", true)
  | 2 => ("RunwayLoomModel$Day", "whereCraft", "[I", true)
  | 3 => ("RunwayLoomModel$Day", "lastOfCraft", "[I", true)
  | 4 => ("RunwayLoomModel$Day", "minutesLeft", "[I", true)
  | 5 => ("RunwayLoomModel$Day", "landingsLeft", "[I", true)
  | 6 => ("RunwayLoomModel$Day", "bans", "[I", true)
  | 7 => ("RunwayLoomModel$Day", "standOfCraft", "[I", true)
  | 8 => ("RunwayLoomModel$Day", "whereCrew", "[I", true)
  | 9 => ("RunwayLoomModel$Day", "lastOfCrew", "[I", true)
  | 10 => ("RunwayLoomModel$Day", "landings", "[I", true)
  | 11 => ("RunwayLoomModel$Day", "newest", "[I", true)
  | 12 => ("RunwayLoomModel$Day", "lastMove", "I", false)
  | 13 => ("RunwayLoomModel$Day", "lastFamily", "I", false)
  | 14 => ("RunwayLoomModel$Day", "minute", "I", false)
  | 15 => ("RunwayLoomModel$Day", "lateBags", "I", false)
  | 16 => ("RunwayLoomModel$Day", "missedSlots", "I", false)
  | 17 => ("RunwayLoomModel$Day", "log", "Ljava/lang/StringBuilder;", true)
  | 18 => ("RunwayLoomModel$Day", "keys", "[I", true)
  | 19 => ("RunwayLoomModel$Day", "row", "Ljava/util/List;", true)
  | 20 => ("RunwayLoomModel$Day", "classes", "Ljava/util/List;", true)
  | _ => ("RunwayLoomModel$Day", "this$0", "LRunwayLoomModel;", true)
def tyX15 : Nat → FieldType := fun k => match k with
  | 0 => .object "java/util/List"
  | 1 => .object "java/util/List"
  | 2 => .array .int
  | 3 => .array .int
  | 4 => .array .int
  | 5 => .array .int
  | 6 => .array .int
  | 7 => .array .int
  | 8 => .array .int
  | 9 => .array .int
  | 10 => .array .int
  | 11 => .array .int
  | 12 => .int
  | 13 => .int
  | 14 => .int
  | 15 => .int
  | 16 => .int
  | 17 => .object "java/lang/StringBuilder"
  | 18 => .array .int
  | 19 => .object "java/util/List"
  | 20 => .object "java/util/List"
  | _ => .object "RunwayLoomModel"
abbrev wsX150 : List Cond := u_ws RX15 TX15 22
theorem nmX15 : ∀ a, a < 22 → ∀ b, b < 22 → a ≠ b → (TX15 a).2.1 ≠ (TX15 b).2.1 := by decide +kernel
theorem tyX15_ok : ∀ k, k < 22 → parseFieldDescriptor (TX15 k).2.2.1 = some (tyX15 k) := by decide +kernel
abbrev cX15_init : ByteArray := prog_18_method_1_code
def yX15_init : MethodName := ⟨RX15, "<init>", "(LRunwayLoomModel;)V"⟩
abbrev cX15_write : ByteArray := prog_18_method_2_code
def yX15_write : MethodName := ⟨RX15, "write", "(CLRunwayLoomModel$Course;)V"⟩
abbrev cX15_cancel : ByteArray := prog_18_method_3_code
def yX15_cancel : MethodName := ⟨RX15, "cancel", "(LRunwayLoomModel$Course;C)V"⟩
abbrev cX15_time : ByteArray := prog_18_method_4_code
def yX15_time : MethodName := ⟨RX15, "time", "(LRunwayLoomModel$Flight;)I"⟩
abbrev cX15_readMessages : ByteArray := prog_18_method_5_code
def yX15_readMessages : MethodName := ⟨RX15, "readMessages", "()V"⟩
abbrev cX15_isFree : ByteArray := prog_18_method_6_code
def yX15_isFree : MethodName := ⟨RX15, "isFree", "(I)Z"⟩
abbrev cX15_family : ByteArray := prog_18_method_7_code
def yX15_family : MethodName := ⟨RX15, "family", "(LRunwayLoomModel$Course;)I"⟩
abbrev cX15_use : ByteArray := prog_18_method_8_code
def yX15_use : MethodName := ⟨RX15, "use", "(LRunwayLoomModel$Course;)V"⟩
abbrev cX15_inOrder : ByteArray := prog_18_method_9_code
def yX15_inOrder : MethodName := ⟨RX15, "inOrder", "(C)Ljava/util/List;"⟩
abbrev cX15_end : ByteArray := prog_18_method_10_code
def yX15_end : MethodName := ⟨RX15, "end", "(LRunwayLoomModel$Course;)V"⟩
abbrev cX15_land : ByteArray := prog_18_method_11_code
def yX15_land : MethodName := ⟨RX15, "land", "()V"⟩
abbrev cX15_isTaken : ByteArray := prog_18_method_12_code
def yX15_isTaken : MethodName := ⟨RX15, "isTaken", "(I)Z"⟩
abbrev cX15_park : ByteArray := prog_18_method_13_code
def yX15_park : MethodName := ⟨RX15, "park", "()V"⟩
abbrev cX15_shutDoors : ByteArray := prog_18_method_14_code
def yX15_shutDoors : MethodName := ⟨RX15, "shutDoors", "()V"⟩
abbrev cX15_tryDoors : ByteArray := prog_18_method_15_code
def yX15_tryDoors : MethodName := ⟨RX15, "tryDoors", "(LRunwayLoomModel$Course;)V"⟩
abbrev cX15_ofCraft : ByteArray := prog_18_method_16_code
def yX15_ofCraft : MethodName := ⟨RX15, "ofCraft", "(LRunwayLoomModel$Flight;)I"⟩
abbrev cX15_ofCrew : ByteArray := prog_18_method_17_code
def yX15_ofCrew : MethodName := ⟨RX15, "ofCrew", "(LRunwayLoomModel$Flight;)I"⟩
abbrev cX15_readyAt : ByteArray := prog_18_method_18_code
def yX15_readyAt : MethodName := ⟨RX15, "readyAt", "(LRunwayLoomModel$Course;)I"⟩
abbrev cX15_presentAt : ByteArray := prog_18_method_19_code
def yX15_presentAt : MethodName := ⟨RX15, "presentAt", "(LRunwayLoomModel$Journey;)I"⟩
abbrev cX15_fromEnd : ByteArray := prog_18_method_20_code
def yX15_fromEnd : MethodName := ⟨RX15, "fromEnd", "(LRunwayLoomModel$Journey;II)I"⟩
abbrev cX15_areAllPresent : ByteArray := prog_18_method_21_code
def yX15_areAllPresent : MethodName := ⟨RX15, "areAllPresent", "(I)Z"⟩
abbrev cX15_barred : ByteArray := prog_18_method_22_code
def yX15_barred : MethodName := ⟨RX15, "barred", "(LRunwayLoomModel$Course;)C"⟩
abbrev cX15_layClasses : ByteArray := prog_18_method_23_code
def yX15_layClasses : MethodName := ⟨RX15, "layClasses", "()V"⟩
abbrev cX15_shut : ByteArray := prog_18_method_24_code
def yX15_shut : MethodName := ⟨RX15, "shut", "(LRunwayLoomModel$Course;)V"⟩
abbrev cX15_board : ByteArray := prog_18_method_25_code
def yX15_board : MethodName := ⟨RX15, "board", "(LRunwayLoomModel$Journey;I)V"⟩
abbrev cX15_findLate : ByteArray := prog_18_method_26_code
def yX15_findLate : MethodName := ⟨RX15, "findLate", "(LRunwayLoomModel$Course;)V"⟩
abbrev cX15_isIcy : ByteArray := prog_18_method_27_code
def yX15_isIcy : MethodName := ⟨RX15, "isIcy", "()Z"⟩
abbrev cX15_layReadiness : ByteArray := prog_18_method_28_code
def yX15_layReadiness : MethodName := ⟨RX15, "layReadiness", "()V"⟩
abbrev cX15_iceOff : ByteArray := prog_18_method_29_code
def yX15_iceOff : MethodName := ⟨RX15, "iceOff", "()V"⟩
abbrev cX15_takeOff : ByteArray := prog_18_method_30_code
def yX15_takeOff : MethodName := ⟨RX15, "takeOff", "()V"⟩
abbrev cX15_canLeave : ByteArray := prog_18_method_31_code
def yX15_canLeave : MethodName := ⟨RX15, "canLeave", "(LRunwayLoomModel$Course;)Z"⟩
abbrev cX15_bookAnew : ByteArray := prog_18_method_32_code
def yX15_bookAnew : MethodName := ⟨RX15, "bookAnew", "()V"⟩
abbrev cX15_isMissing : ByteArray := prog_18_method_33_code
def yX15_isMissing : MethodName := ⟨RX15, "isMissing", "(LRunwayLoomModel$Journey;)Z"⟩
abbrev cX15_found : ByteArray := prog_18_method_34_code
def yX15_found : MethodName := ⟨RX15, "found", "(LRunwayLoomModel$Journey;)I"⟩
abbrev cX15_cause : ByteArray := prog_18_method_35_code
def yX15_cause : MethodName := ⟨RX15, "cause", "(I)C"⟩
abbrev cX15_root : ByteArray := prog_18_method_36_code
def yX15_root : MethodName := ⟨RX15, "root", "(I)I"⟩
abbrev cX15_lateness : ByteArray := prog_18_method_37_code
def yX15_lateness : MethodName := ⟨RX15, "lateness", "(LRunwayLoomModel$Journey;)I"⟩
abbrev cX15_harm : ByteArray := prog_18_method_38_code
def yX15_harm : MethodName := ⟨RX15, "harm", "()I"⟩
abbrev cX15_paid : ByteArray := prog_18_method_39_code
def yX15_paid : MethodName := ⟨RX15, "paid", "()I"⟩
def RX16 : String := "RunwayLoomModel$Flight"
def TX16 : u_T := fun k => match k with
  | 0 => ("RunwayLoomModel$Flight", "number", "I", true)
  | 1 => ("RunwayLoomModel$Flight", "from", "I", true)
  | 2 => ("RunwayLoomModel$Flight", "to", "I", true)
  | 3 => ("RunwayLoomModel$Flight", "off", "I", true)
  | 4 => ("RunwayLoomModel$Flight", "crew", "I", true)
  | 5 => ("RunwayLoomModel$Flight", "aircraft", "I", false)
  | 6 => ("RunwayLoomModel$Flight", "hold", "I", false)
  | 7 => ("RunwayLoomModel$Flight", "wait", "I", false)
  | 8 => ("RunwayLoomModel$Flight", "slot", "I", false)
  | _ => ("RunwayLoomModel$Flight", "isCancelled", "Z", false)
def tyX16 : Nat → FieldType := fun k => match k with
  | 0 => .int
  | 1 => .int
  | 2 => .int
  | 3 => .int
  | 4 => .int
  | 5 => .int
  | 6 => .int
  | 7 => .int
  | 8 => .int
  | _ => .boolean
abbrev wsX160 : List Cond := u_ws RX16 TX16 10
theorem nmX16 : ∀ a, a < 10 → ∀ b, b < 10 → a ≠ b → (TX16 a).2.1 ≠ (TX16 b).2.1 := by decide +kernel
theorem tyX16_ok : ∀ k, k < 10 → parseFieldDescriptor (TX16 k).2.2.1 = some (tyX16 k) := by decide +kernel
abbrev cX16_init : ByteArray := prog_19_method_1_code
def yX16_init : MethodName := ⟨RX16, "<init>", "(IIIIII)V"⟩
abbrev cX16_isAheadOf : ByteArray := prog_19_method_2_code
def yX16_isAheadOf : MethodName := ⟨RX16, "isAheadOf", "(LRunwayLoomModel$Flight;)Z"⟩
abbrev cX16_isBeyond : ByteArray := prog_19_method_3_code
def yX16_isBeyond : MethodName := ⟨RX16, "isBeyond", "()Z"⟩
def RX17 : String := "RunwayLoomModel$Group"
def TX17 : u_T := fun k => match k with
  | 0 => ("RunwayLoomModel$Group", "first", "I", true)
  | 1 => ("RunwayLoomModel$Group", "second", "I", true)
  | 2 => ("RunwayLoomModel$Group", "people", "I", true)
  | 3 => ("RunwayLoomModel$Group", "rank", "I", true)
  | _ => ("RunwayLoomModel$Group", "hasVisa", "Z", true)
def tyX17 : Nat → FieldType := fun k => match k with
  | 0 => .int
  | 1 => .int
  | 2 => .int
  | 3 => .int
  | _ => .boolean
abbrev wsX170 : List Cond := u_ws RX17 TX17 5
theorem nmX17 : ∀ a, a < 5 → ∀ b, b < 5 → a ≠ b → (TX17 a).2.1 ≠ (TX17 b).2.1 := by decide +kernel
theorem tyX17_ok : ∀ k, k < 5 → parseFieldDescriptor (TX17 k).2.2.1 = some (tyX17 k) := by decide +kernel
abbrev cX17_init : ByteArray := prog_20_method_1_code
def yX17_init : MethodName := ⟨RX17, "<init>", "(IIIIZ)V"⟩
abbrev cX17_last : ByteArray := prog_20_method_2_code
def yX17_last : MethodName := ⟨RX17, "last", "()I"⟩
def RX18 : String := "RunwayLoomModel$Journey"
def TX18 : u_T := fun k => match k with
  | 0 => ("RunwayLoomModel$Journey", "group", "LRunwayLoomModel$Group;", true)
  | 1 => ("RunwayLoomModel$Journey", "next", "I", false)
  | 2 => ("RunwayLoomModel$Journey", "taken", "I", false)
  | 3 => ("RunwayLoomModel$Journey", "missed", "I", false)
  | 4 => ("RunwayLoomModel$Journey", "isLast", "Z", false)
  | _ => ("RunwayLoomModel$Journey", "isStranded", "Z", false)
def tyX18 : Nat → FieldType := fun k => match k with
  | 0 => .object "RunwayLoomModel$Group"
  | 1 => .int
  | 2 => .int
  | 3 => .int
  | 4 => .boolean
  | _ => .boolean
abbrev wsX180 : List Cond := u_ws RX18 TX18 6
theorem nmX18 : ∀ a, a < 6 → ∀ b, b < 6 → a ≠ b → (TX18 a).2.1 ≠ (TX18 b).2.1 := by decide +kernel
theorem tyX18_ok : ∀ k, k < 6 → parseFieldDescriptor (TX18 k).2.2.1 = some (tyX18 k) := by decide +kernel
abbrev cX18_init : ByteArray := prog_21_method_1_code
def yX18_init : MethodName := ⟨RX18, "<init>", "(LRunwayLoomModel$Group;)V"⟩
def RX19 : String := "RunwayLoomModel"
def TX19 : u_T := fun k => match k with
  | 0 => ("RunwayLoomModel", "times", "[[I", true)
  | 1 => ("RunwayLoomModel", "fleet", "Ljava/util/List;", true)
  | 2 => ("RunwayLoomModel", "crews", "Ljava/util/List;", true)
  | 3 => ("RunwayLoomModel", "stands", "Ljava/util/List;", true)
  | 4 => ("RunwayLoomModel", "turns", "Ljava/util/List;", true)
  | 5 => ("RunwayLoomModel", "iceFrom", "I", false)
  | 6 => ("RunwayLoomModel", "iceTo", "I", false)
  | 7 => ("RunwayLoomModel", "pads", "I", false)
  | 8 => ("RunwayLoomModel", "flights", "Ljava/util/List;", true)
  | 9 => ("RunwayLoomModel", "groups", "Ljava/util/List;", true)
  | 10 => ("RunwayLoomModel", "messages", "Ljava/util/List;", true)
  | 11 => ("RunwayLoomModel", "day", "LRunwayLoomModel$Day;", false)
  | _ => ("RunwayLoomModel", "thrown", "I", false)
def tyX19 : Nat → FieldType := fun k => match k with
  | 0 => .array (.array .int)
  | 1 => .object "java/util/List"
  | 2 => .object "java/util/List"
  | 3 => .object "java/util/List"
  | 4 => .object "java/util/List"
  | 5 => .int
  | 6 => .int
  | 7 => .int
  | 8 => .object "java/util/List"
  | 9 => .object "java/util/List"
  | 10 => .object "java/util/List"
  | 11 => .object "RunwayLoomModel$Day"
  | _ => .int
abbrev wsX190 : List Cond := u_ws RX19 TX19 13
theorem nmX19 : ∀ a, a < 13 → ∀ b, b < 13 → a ≠ b → (TX19 a).2.1 ≠ (TX19 b).2.1 := by decide +kernel
theorem tyX19_ok : ∀ k, k < 13 → parseFieldDescriptor (TX19 k).2.2.1 = some (tyX19 k) := by decide +kernel
abbrev cX19_init : ByteArray := prog_14_method_1_code
def yX19_init : MethodName := ⟨RX19, "<init>", "()V"⟩
abbrev cX19_thrown : ByteArray := prog_14_method_2_code
def yX19_thrown : MethodName := ⟨RX19, "thrown", "()I"⟩
abbrev cX19_in : ByteArray := prog_14_method_3_code
def yX19_in : MethodName := ⟨RX19, "in", "(JJJ)Z"⟩
abbrev cX19_isAirport : ByteArray := prog_14_method_4_code
def yX19_isAirport : MethodName := ⟨RX19, "isAirport", "(I)Z"⟩
abbrev cX19_isFlight : ByteArray := prog_14_method_5_code
def yX19_isFlight : MethodName := ⟨RX19, "isFlight", "(I)Z"⟩
abbrev cX19_fly : ByteArray := prog_14_method_6_code
def yX19_fly : MethodName := ⟨RX19, "fly", "(III)I"⟩
abbrev cX19_addAircraft : ByteArray := prog_14_method_7_code
def yX19_addAircraft : MethodName := ⟨RX19, "addAircraft", "(IIIIII)I"⟩
abbrev cX19_fault : ByteArray := prog_14_method_8_code
def yX19_fault : MethodName := ⟨RX19, "fault", "(II)Z"⟩
abbrev cX19_addCrew : ByteArray := prog_14_method_9_code
def yX19_addCrew : MethodName := ⟨RX19, "addCrew", "(IIIZ)I"⟩
abbrev cX19_addStand : ByteArray := prog_14_method_10_code
def yX19_addStand : MethodName := ⟨RX19, "addStand", "(IZ)I"⟩
abbrev cX19_turnRunway : ByteArray := prog_14_method_11_code
def yX19_turnRunway : MethodName := ⟨RX19, "turnRunway", "(I)I"⟩
abbrev cX19_ice : ByteArray := prog_14_method_12_code
def yX19_ice : MethodName := ⟨RX19, "ice", "(II)I"⟩
abbrev cX19_setPads : ByteArray := prog_14_method_13_code
def yX19_setPads : MethodName := ⟨RX19, "setPads", "(I)I"⟩
abbrev cX19_addFlight : ByteArray := prog_14_method_14_code
def yX19_addFlight : MethodName := ⟨RX19, "addFlight", "(IIIII)I"⟩
abbrev cX19_slot : ByteArray := prog_14_method_15_code
def yX19_slot : MethodName := ⟨RX19, "slot", "(II)I"⟩
abbrev cX19_trade : ByteArray := prog_14_method_16_code
def yX19_trade : MethodName := ⟨RX19, "trade", "(II)I"⟩
abbrev cX19_hold : ByteArray := prog_14_method_17_code
def yX19_hold : MethodName := ⟨RX19, "hold", "(II)I"⟩
abbrev cX19_waitFor : ByteArray := prog_14_method_18_code
def yX19_waitFor : MethodName := ⟨RX19, "waitFor", "(II)I"⟩
abbrev cX19_swap : ByteArray := prog_14_method_19_code
def yX19_swap : MethodName := ⟨RX19, "swap", "(II)I"⟩
abbrev cX19_cancel : ByteArray := prog_14_method_20_code
def yX19_cancel : MethodName := ⟨RX19, "cancel", "(I)Z"⟩
abbrev cX19_addGroup : ByteArray := prog_14_method_21_code
def yX19_addGroup : MethodName := ⟨RX19, "addGroup", "(IIIIZ)I"⟩
abbrev cX19_tell : ByteArray := prog_14_method_22_code
def yX19_tell : MethodName := ⟨RX19, "tell", "(CIIII)I"⟩
abbrev cX19_day : ByteArray := prog_14_method_23_code
def yX19_day : MethodName := ⟨RX19, "day", "()LRunwayLoomModel$Day;"⟩
abbrev cX19_state : ByteArray := prog_14_method_24_code
def yX19_state : MethodName := ⟨RX19, "state", "(I)C"⟩
abbrev cX19_minuteOf : ByteArray := prog_14_method_25_code
def yX19_minuteOf : MethodName := ⟨RX19, "minuteOf", "(IC)I"⟩
abbrev cX19_standOf : ByteArray := prog_14_method_26_code
def yX19_standOf : MethodName := ⟨RX19, "standOf", "(I)I"⟩
abbrev cX19_hasCause : ByteArray := prog_14_method_27_code
def yX19_hasCause : MethodName := ⟨RX19, "hasCause", "(I)Z"⟩
abbrev cX19_cause : ByteArray := prog_14_method_28_code
def yX19_cause : MethodName := ⟨RX19, "cause", "(I)C"⟩
abbrev cX19_root : ByteArray := prog_14_method_29_code
def yX19_root : MethodName := ⟨RX19, "root", "(I)I"⟩
abbrev cX19_isGroup : ByteArray := prog_14_method_30_code
def yX19_isGroup : MethodName := ⟨RX19, "isGroup", "(I)Z"⟩
abbrev cX19_lateness : ByteArray := prog_14_method_31_code
def yX19_lateness : MethodName := ⟨RX19, "lateness", "(I)I"⟩
abbrev cX19_lastOf : ByteArray := prog_14_method_32_code
def yX19_lastOf : MethodName := ⟨RX19, "lastOf", "(I)I"⟩
abbrev cX19_isStranded : ByteArray := prog_14_method_33_code
def yX19_isStranded : MethodName := ⟨RX19, "isStranded", "(I)Z"⟩
abbrev cX19_lateBags : ByteArray := prog_14_method_34_code
def yX19_lateBags : MethodName := ⟨RX19, "lateBags", "()I"⟩
abbrev cX19_missed : ByteArray := prog_14_method_35_code
def yX19_missed : MethodName := ⟨RX19, "missed", "()I"⟩
abbrev cX19_harm : ByteArray := prog_14_method_36_code
def yX19_harm : MethodName := ⟨RX19, "harm", "()I"⟩
abbrev cX19_paid : ByteArray := prog_14_method_37_code
def yX19_paid : MethodName := ⟨RX19, "paid", "()I"⟩
abbrev cX19_logLength : ByteArray := prog_14_method_38_code
def yX19_logLength : MethodName := ⟨RX19, "logLength", "()I"⟩
abbrev cX19_logAt : ByteArray := prog_14_method_39_code
def yX19_logAt : MethodName := ⟨RX19, "logAt", "(I)C"⟩
abbrev cX19_isSet : ByteArray := prog_14_method_40_code
def yX19_isSet : MethodName := ⟨RX19, "isSet", "(I)Z"⟩
abbrev cX19_ofSet : ByteArray := prog_14_method_41_code
def yX19_ofSet : MethodName := ⟨RX19, "ofSet", "(I)Ljava/util/List;"⟩
abbrev cX19_lay : ByteArray := prog_14_method_42_code
def yX19_lay : MethodName := ⟨RX19, "lay", "(Ljava/util/List;I)[I"⟩
abbrev cX19_undo : ByteArray := prog_14_method_43_code
def yX19_undo : MethodName := ⟨RX19, "undo", "(Ljava/util/List;[I)V"⟩
abbrev cX19_best : ByteArray := prog_14_method_44_code
def yX19_best : MethodName := ⟨RX19, "best", "(Ljava/util/List;)I"⟩
abbrev cX19_recover : ByteArray := prog_14_method_45_code
def yX19_recover : MethodName := ⟨RX19, "recover", "(I)I"⟩
abbrev cX19_isBest : ByteArray := prog_14_method_46_code
def yX19_isBest : MethodName := ⟨RX19, "isBest", "(I)Z"⟩
abbrev cX19_onTimeShare : ByteArray := prog_14_method_47_code
def yX19_onTimeShare : MethodName := ⟨RX19, "onTimeShare", "()F"⟩
abbrev cX19_meanLateness : ByteArray := prog_14_method_48_code
def yX19_meanLateness : MethodName := ⟨RX19, "meanLateness", "()D"⟩
abbrev cX19_isSound : ByteArray := prog_14_method_49_code
def yX19_isSound : MethodName := ⟨RX19, "isSound", "()Z"⟩
def RJx145de : String := "java/io/Serializable"
def TJx145de : u_T := fun k => match k with
  | _ => ("", "", "", false)
def tyJx145de : Nat → FieldType := fun k => match k with
  | _ => .int
abbrev wsJx145de0 : List Cond := u_ws RJx145de TJx145de 0
theorem nmJx145de : ∀ a, a < 0 → ∀ b, b < 0 → a ≠ b → (TJx145de a).2.1 ≠ (TJx145de b).2.1 := by decide +kernel
theorem tyJx145de_ok : ∀ k, k < 0 → parseFieldDescriptor (TJx145de k).2.2.1 = some (tyJx145de k) := by decide +kernel
def RJ5 : String := "java/lang/AbstractStringBuilder"
def TJ5 : u_T := fun k => match k with
  | _ => ("", "", "", false)
def tyJ5 : Nat → FieldType := fun k => match k with
  | _ => .int
abbrev wsJ50 : List Cond := u_ws RJ5 TJ5 0
theorem nmJ5 : ∀ a, a < 0 → ∀ b, b < 0 → a ≠ b → (TJ5 a).2.1 ≠ (TJ5 b).2.1 := by decide +kernel
theorem tyJ5_ok : ∀ k, k < 0 → parseFieldDescriptor (TJ5 k).2.2.1 = some (tyJ5 k) := by decide +kernel
abbrev cJ5_init_d00df : ByteArray := prog_23_method_2_code
def yJ5_init_d00df : MethodName := ⟨RJ5, "<init>", "(I)V"⟩
abbrev cJ5_length_8abf5 : ByteArray := prog_23_method_6_code
def yJ5_length_8abf5 : MethodName := ⟨RJ5, "length", "()I"⟩
abbrev cJ5_ensureCapacityInternal_d00df : ByteArray := prog_23_method_9_code
def yJ5_ensureCapacityInternal_d00df : MethodName := ⟨RJ5, "ensureCapacityInternal", "(I)V"⟩
abbrev cJ5_newCapacity_0f7a4 : ByteArray := prog_23_method_10_code
def yJ5_newCapacity_0f7a4 : MethodName := ⟨RJ5, "newCapacity", "(I)I"⟩
abbrev cJ5_inflate_da8c8 : ByteArray := prog_23_method_11_code
def yJ5_inflate_da8c8 : MethodName := ⟨RJ5, "inflate", "()V"⟩
abbrev cJ5_charAt_5068e : ByteArray := prog_23_method_14_code
def yJ5_charAt_5068e : MethodName := ⟨RJ5, "charAt", "(I)C"⟩
abbrev cJ5_append_cf1ce : ByteArray := prog_23_method_22_code
def yJ5_append_cf1ce : MethodName := ⟨RJ5, "append", "(Ljava/lang/String;)Ljava/lang/AbstractStringBuilder;"⟩
abbrev cJ5_appendNull_278bc : ByteArray := prog_23_method_26_code
def yJ5_appendNull_278bc : MethodName := ⟨RJ5, "appendNull", "()Ljava/lang/AbstractStringBuilder;"⟩
abbrev cJ5_append_3fe6f : ByteArray := prog_23_method_31_code
def yJ5_append_3fe6f : MethodName := ⟨RJ5, "append", "(C)Ljava/lang/AbstractStringBuilder;"⟩
abbrev cJ5_append_c97b9 : ByteArray := prog_23_method_32_code
def yJ5_append_c97b9 : MethodName := ⟨RJ5, "append", "(I)Ljava/lang/AbstractStringBuilder;"⟩
abbrev cJ5_getValue_6d5f1 : ByteArray := prog_23_method_64_code
def yJ5_getValue_6d5f1 : MethodName := ⟨RJ5, "getValue", "()[B"⟩
abbrev cJ5_isLatin1_aae02 : ByteArray := prog_23_method_68_code
def yJ5_isLatin1_aae02 : MethodName := ⟨RJ5, "isLatin1", "()Z"⟩
abbrev cJ5_inflateIfNeededFor_a7421 : ByteArray := prog_23_method_71_code
def yJ5_inflateIfNeededFor_a7421 : MethodName := ⟨RJ5, "inflateIfNeededFor", "(Ljava/lang/String;)V"⟩
abbrev cJ5_putStringAt_47b60 : ByteArray := prog_23_method_73_code
def yJ5_putStringAt_47b60 : MethodName := ⟨RJ5, "putStringAt", "(ILjava/lang/String;)V"⟩
def RJx2cfe8 : String := "java/lang/Appendable"
def TJx2cfe8 : u_T := fun k => match k with
  | _ => ("", "", "", false)
def tyJx2cfe8 : Nat → FieldType := fun k => match k with
  | _ => .int
abbrev wsJx2cfe80 : List Cond := u_ws RJx2cfe8 TJx2cfe8 0
theorem nmJx2cfe8 : ∀ a, a < 0 → ∀ b, b < 0 → a ≠ b → (TJx2cfe8 a).2.1 ≠ (TJx2cfe8 b).2.1 := by decide +kernel
theorem tyJx2cfe8_ok : ∀ k, k < 0 → parseFieldDescriptor (TJx2cfe8 k).2.2.1 = some (tyJx2cfe8 k) := by decide +kernel
def RJx00060 : String := "java/lang/ArrayIndexOutOfBoundsException"
def TJx00060 : u_T := fun k => match k with
  | 0 => ("java/lang/Throwable", "backtrace", "Ljava/lang/Object;", false)
  | 1 => ("java/lang/Throwable", "detailMessage", "Ljava/lang/String;", false)
  | 2 => ("java/lang/Throwable", "cause", "Ljava/lang/Throwable;", false)
  | 3 => ("java/lang/Throwable", "stackTrace", "[Ljava/lang/StackTraceElement;", false)
  | 4 => ("java/lang/Throwable", "depth", "I", false)
  | _ => ("java/lang/Throwable", "suppressedExceptions", "Ljava/util/List;", false)
def tyJx00060 : Nat → FieldType := fun k => match k with
  | 0 => .object "java/lang/Object"
  | 1 => .object "java/lang/String"
  | 2 => .object "java/lang/Throwable"
  | 3 => .array (.object "java/lang/StackTraceElement")
  | 4 => .int
  | _ => .object "java/util/List"
abbrev wsJx000600 : List Cond := u_ws RJx00060 TJx00060 6
theorem nmJx00060 : ∀ a, a < 6 → ∀ b, b < 6 → a ≠ b → (TJx00060 a).2.1 ≠ (TJx00060 b).2.1 := by decide +kernel
theorem tyJx00060_ok : ∀ k, k < 6 → parseFieldDescriptor (TJx00060 k).2.2.1 = some (tyJx00060 k) := by decide +kernel
abbrev cJx00060_init_a7421 : ByteArray := prog_26_method_2_code
def yJx00060_init_a7421 : MethodName := ⟨RJx00060, "<init>", "(Ljava/lang/String;)V"⟩
def RJx9f9b0 : String := "java/lang/CharSequence"
def TJx9f9b0 : u_T := fun k => match k with
  | _ => ("", "", "", false)
def tyJx9f9b0 : Nat → FieldType := fun k => match k with
  | _ => .int
abbrev wsJx9f9b00 : List Cond := u_ws RJx9f9b0 TJx9f9b0 0
theorem nmJx9f9b0 : ∀ a, a < 0 → ∀ b, b < 0 → a ≠ b → (TJx9f9b0 a).2.1 ≠ (TJx9f9b0 b).2.1 := by decide +kernel
theorem tyJx9f9b0_ok : ∀ k, k < 0 → parseFieldDescriptor (TJx9f9b0 k).2.2.1 = some (tyJx9f9b0 k) := by decide +kernel
def RJ11 : String := "java/lang/Character"
def TJ11 : u_T := fun k => match k with
  | _ => ("", "", "", false)
def tyJ11 : Nat → FieldType := fun k => match k with
  | _ => .int
abbrev wsJ110 : List Cond := u_ws RJ11 TJ11 0
theorem nmJ11 : ∀ a, a < 0 → ∀ b, b < 0 → a ≠ b → (TJ11 a).2.1 ≠ (TJ11 b).2.1 := by decide +kernel
theorem tyJ11_ok : ∀ k, k < 0 → parseFieldDescriptor (TJ11 k).2.2.1 = some (tyJ11 k) := by decide +kernel
abbrev cJ11_isValidCodePoint_9a6ad : ByteArray := prog_28_method_11_code
def yJ11_isValidCodePoint_9a6ad : MethodName := ⟨RJ11, "isValidCodePoint", "(I)Z"⟩
abbrev cJ11_highSurrogate_5068e : ByteArray := prog_28_method_28_code
def yJ11_highSurrogate_5068e : MethodName := ⟨RJ11, "highSurrogate", "(I)C"⟩
abbrev cJ11_lowSurrogate_5068e : ByteArray := prog_28_method_29_code
def yJ11_lowSurrogate_5068e : MethodName := ⟨RJ11, "lowSurrogate", "(I)C"⟩
def RJx8e188 : String := "java/lang/Cloneable"
def TJx8e188 : u_T := fun k => match k with
  | _ => ("", "", "", false)
def tyJx8e188 : Nat → FieldType := fun k => match k with
  | _ => .int
abbrev wsJx8e1880 : List Cond := u_ws RJx8e188 TJx8e188 0
theorem nmJx8e188 : ∀ a, a < 0 → ∀ b, b < 0 → a ≠ b → (TJx8e188 a).2.1 ≠ (TJx8e188 b).2.1 := by decide +kernel
theorem tyJx8e188_ok : ∀ k, k < 0 → parseFieldDescriptor (TJx8e188 k).2.2.1 = some (tyJx8e188 k) := by decide +kernel
def RJxb160c : String := "java/lang/Comparable"
def TJxb160c : u_T := fun k => match k with
  | _ => ("", "", "", false)
def tyJxb160c : Nat → FieldType := fun k => match k with
  | _ => .int
abbrev wsJxb160c0 : List Cond := u_ws RJxb160c TJxb160c 0
theorem nmJxb160c : ∀ a, a < 0 → ∀ b, b < 0 → a ≠ b → (TJxb160c a).2.1 ≠ (TJxb160c b).2.1 := by decide +kernel
theorem tyJxb160c_ok : ∀ k, k < 0 → parseFieldDescriptor (TJxb160c k).2.2.1 = some (tyJxb160c k) := by decide +kernel
def RJxabbfe : String := "java/lang/Integer$IntegerCache"
def TJxabbfe : u_T := fun k => match k with
  | _ => ("", "", "", false)
def tyJxabbfe : Nat → FieldType := fun k => match k with
  | _ => .int
abbrev wsJxabbfe0 : List Cond := u_ws RJxabbfe TJxabbfe 0
theorem nmJxabbfe : ∀ a, a < 0 → ∀ b, b < 0 → a ≠ b → (TJxabbfe a).2.1 ≠ (TJxabbfe b).2.1 := by decide +kernel
theorem tyJxabbfe_ok : ∀ k, k < 0 → parseFieldDescriptor (TJxabbfe k).2.2.1 = some (tyJxabbfe k) := by decide +kernel
def RJ6 : String := "java/lang/Integer"
def TJ6 : u_T := fun k => match k with
  | _ => ("java/lang/Integer", "value", "I", true)
def tyJ6 : Nat → FieldType := fun k => match k with
  | _ => .int
abbrev wsJ60 : List Cond := u_ws RJ6 TJ6 1
theorem nmJ6 : ∀ a, a < 1 → ∀ b, b < 1 → a ≠ b → (TJ6 a).2.1 ≠ (TJ6 b).2.1 := by decide +kernel
theorem tyJ6_ok : ∀ k, k < 1 → parseFieldDescriptor (TJ6 k).2.2.1 = some (tyJ6 k) := by decide +kernel
abbrev cJ6_getChars_ba4f3 : ByteArray := prog_35_method_12_code
def yJ6_getChars_ba4f3 : MethodName := ⟨RJ6, "getChars", "(II[B)I"⟩
abbrev cJ6_stringSize_0f7a4 : ByteArray := prog_35_method_13_code
def yJ6_stringSize_0f7a4 : MethodName := ⟨RJ6, "stringSize", "(I)I"⟩
abbrev cJ6_valueOf_2dffe : ByteArray := prog_35_method_22_code
def yJ6_valueOf_2dffe : MethodName := ⟨RJ6, "valueOf", "(I)Ljava/lang/Integer;"⟩
abbrev cJ6_init_d00df : ByteArray := prog_35_method_23_code
def yJ6_init_d00df : MethodName := ⟨RJ6, "<init>", "(I)V"⟩
abbrev cJ6_intValue_8abf5 : ByteArray := prog_35_method_27_code
def yJ6_intValue_8abf5 : MethodName := ⟨RJ6, "intValue", "()I"⟩
abbrev cJ6_bitCount_0f7a4 : ByteArray := prog_35_method_49_code
def yJ6_bitCount_0f7a4 : MethodName := ⟨RJ6, "bitCount", "(I)I"⟩
def RJxab1ab : String := "java/lang/Iterable"
def TJxab1ab : u_T := fun k => match k with
  | _ => ("", "", "", false)
def tyJxab1ab : Nat → FieldType := fun k => match k with
  | _ => .int
abbrev wsJxab1ab0 : List Cond := u_ws RJxab1ab TJxab1ab 0
theorem nmJxab1ab : ∀ a, a < 0 → ∀ b, b < 0 → a ≠ b → (TJxab1ab a).2.1 ≠ (TJxab1ab b).2.1 := by decide +kernel
theorem tyJxab1ab_ok : ∀ k, k < 0 → parseFieldDescriptor (TJxab1ab k).2.2.1 = some (tyJxab1ab k) := by decide +kernel
def RJ9 : String := "java/lang/Math"
def TJ9 : u_T := fun k => match k with
  | _ => ("", "", "", false)
def tyJ9 : Nat → FieldType := fun k => match k with
  | _ => .int
abbrev wsJ90 : List Cond := u_ws RJ9 TJ9 0
theorem nmJ9 : ∀ a, a < 0 → ∀ b, b < 0 → a ≠ b → (TJ9 a).2.1 ≠ (TJ9 b).2.1 := by decide +kernel
theorem tyJ9_ok : ∀ k, k < 0 → parseFieldDescriptor (TJ9 k).2.2.1 = some (tyJ9 k) := by decide +kernel
abbrev cJ9_max_7cf53 : ByteArray := prog_38_method_65_code
def yJ9_max_7cf53 : MethodName := ⟨RJ9, "max", "(II)I"⟩
abbrev cJ9_min_7cf53 : ByteArray := prog_38_method_69_code
def yJ9_min_7cf53 : MethodName := ⟨RJ9, "min", "(II)I"⟩
def RJxd2413 : String := "java/lang/Number"
def TJxd2413 : u_T := fun k => match k with
  | _ => ("", "", "", false)
def tyJxd2413 : Nat → FieldType := fun k => match k with
  | _ => .int
abbrev wsJxd24130 : List Cond := u_ws RJxd2413 TJxd2413 0
theorem nmJxd2413 : ∀ a, a < 0 → ∀ b, b < 0 → a ≠ b → (TJxd2413 a).2.1 ≠ (TJxd2413 b).2.1 := by decide +kernel
theorem tyJxd2413_ok : ∀ k, k < 0 → parseFieldDescriptor (TJxd2413 k).2.2.1 = some (tyJxd2413 k) := by decide +kernel
abbrev cJxd2413_init_da8c8 : ByteArray := prog_39_method_1_code
def yJxd2413_init_da8c8 : MethodName := ⟨RJxd2413, "<init>", "()V"⟩
def RJ0 : String := "java/lang/String"
def TJ0 : u_T := fun k => match k with
  | 0 => ("java/lang/String", "value", "[B", true)
  | 1 => ("java/lang/String", "coder", "B", true)
  | 2 => ("java/lang/String", "hash", "I", false)
  | _ => ("java/lang/String", "hashIsZero", "Z", false)
def tyJ0 : Nat → FieldType := fun k => match k with
  | 0 => .array .byte
  | 1 => .byte
  | 2 => .int
  | _ => .boolean
abbrev wsJ00 : List Cond := u_ws RJ0 TJ0 4
theorem nmJ0 : ∀ a, a < 4 → ∀ b, b < 4 → a ≠ b → (TJ0 a).2.1 ≠ (TJ0 b).2.1 := by decide +kernel
theorem tyJ0_ok : ∀ k, k < 4 → parseFieldDescriptor (TJ0 k).2.2.1 = some (tyJ0 k) := by decide +kernel
abbrev cJ0_init_81219 : ByteArray := prog_41_method_53_code
def yJ0_init_81219 : MethodName := ⟨RJ0, "<init>", "(Ljava/lang/StringBuilder;)V"⟩
abbrev cJ0_length_8abf5 : ByteArray := prog_41_method_54_code
def yJ0_length_8abf5 : MethodName := ⟨RJ0, "length", "()I"⟩
abbrev cJ0_charAt_5068e : ByteArray := prog_41_method_56_code
def yJ0_charAt_5068e : MethodName := ⟨RJ0, "charAt", "(I)C"⟩
abbrev cJ0_indexOf_0f7a4 : ByteArray := prog_41_method_79_code
def yJ0_indexOf_0f7a4 : MethodName := ⟨RJ0, "indexOf", "(I)I"⟩
abbrev cJ0_indexOf_7cf53 : ByteArray := prog_41_method_80_code
def yJ0_indexOf_7cf53 : MethodName := ⟨RJ0, "indexOf", "(II)I"⟩
abbrev cJ0_getBytes_840e7 : ByteArray := prog_41_method_147_code
def yJ0_getBytes_840e7 : MethodName := ⟨RJ0, "getBytes", "([BIB)V"⟩
abbrev cJ0_init_db425 : ByteArray := prog_41_method_150_code
def yJ0_init_db425 : MethodName := ⟨RJ0, "<init>", "(Ljava/lang/AbstractStringBuilder;Ljava/lang/Void;)V"⟩
abbrev cJ0_coder_7d493 : ByteArray := prog_41_method_152_code
def yJ0_coder_7d493 : MethodName := ⟨RJ0, "coder", "()B"⟩
abbrev cJ0_isLatin1_aae02 : ByteArray := prog_41_method_154_code
def yJ0_isLatin1_aae02 : MethodName := ⟨RJ0, "isLatin1", "()Z"⟩
abbrev cJ0_checkIndex_df160 : ByteArray := prog_41_method_155_code
def yJ0_checkIndex_df160 : MethodName := ⟨RJ0, "checkIndex", "(II)V"⟩
abbrev cJ0_checkBoundsOffCount_cabcc : ByteArray := prog_41_method_157_code
def yJ0_checkBoundsOffCount_cabcc : MethodName := ⟨RJ0, "checkBoundsOffCount", "(III)I"⟩
abbrev cJ0_checkBoundsBeginEnd_23922 : ByteArray := prog_41_method_158_code
def yJ0_checkBoundsBeginEnd_23922 : MethodName := ⟨RJ0, "checkBoundsBeginEnd", "(III)V"⟩
def RJ4 : String := "java/lang/StringBuilder"
def TJ4 : u_T := fun k => match k with
  | 0 => ("java/lang/AbstractStringBuilder", "value", "[B", false)
  | 1 => ("java/lang/AbstractStringBuilder", "coder", "B", false)
  | 2 => ("java/lang/AbstractStringBuilder", "maybeLatin1", "Z", false)
  | _ => ("java/lang/AbstractStringBuilder", "count", "I", false)
def tyJ4 : Nat → FieldType := fun k => match k with
  | 0 => .array .byte
  | 1 => .byte
  | 2 => .boolean
  | _ => .int
abbrev wsJ40 : List Cond := u_ws RJ4 TJ4 4
theorem nmJ4 : ∀ a, a < 4 → ∀ b, b < 4 → a ≠ b → (TJ4 a).2.1 ≠ (TJ4 b).2.1 := by decide +kernel
theorem tyJ4_ok : ∀ k, k < 4 → parseFieldDescriptor (TJ4 k).2.2.1 = some (tyJ4 k) := by decide +kernel
abbrev cJ4_init_da8c8 : ByteArray := prog_42_method_1_code
def yJ4_init_da8c8 : MethodName := ⟨RJ4, "<init>", "()V"⟩
abbrev cJ4_append_15ec4 : ByteArray := prog_42_method_7_code
def yJ4_append_15ec4 : MethodName := ⟨RJ4, "append", "(Ljava/lang/String;)Ljava/lang/StringBuilder;"⟩
abbrev cJ4_append_cf468 : ByteArray := prog_42_method_14_code
def yJ4_append_cf468 : MethodName := ⟨RJ4, "append", "(C)Ljava/lang/StringBuilder;"⟩
abbrev cJ4_append_bf812 : ByteArray := prog_42_method_15_code
def yJ4_append_bf812 : MethodName := ⟨RJ4, "append", "(I)Ljava/lang/StringBuilder;"⟩
abbrev cJ4_toString_0e30d : ByteArray := prog_42_method_42_code
def yJ4_toString_0e30d : MethodName := ⟨RJ4, "toString", "()Ljava/lang/String;"⟩
abbrev cJ4_charAt_5068e : ByteArray := prog_42_method_88_code
def yJ4_charAt_5068e : MethodName := ⟨RJ4, "charAt", "(I)C"⟩
abbrev cJ4_length_8abf5 : ByteArray := prog_42_method_93_code
def yJ4_length_8abf5 : MethodName := ⟨RJ4, "length", "()I"⟩
def RJ1 : String := "java/lang/StringLatin1"
def TJ1 : u_T := fun k => match k with
  | _ => ("", "", "", false)
def tyJ1 : Nat → FieldType := fun k => match k with
  | _ => .int
abbrev wsJ10 : List Cond := u_ws RJ1 TJ1 0
theorem nmJ1 : ∀ a, a < 0 → ∀ b, b < 0 → a ≠ b → (TJ1 a).2.1 ≠ (TJ1 b).2.1 := by decide +kernel
theorem tyJ1_ok : ∀ k, k < 0 → parseFieldDescriptor (TJ1 k).2.2.1 = some (tyJ1 k) := by decide +kernel
abbrev cJ1_charAt_3b067 : ByteArray := prog_43_method_2_code
def yJ1_charAt_3b067 : MethodName := ⟨RJ1, "charAt", "([BI)C"⟩
abbrev cJ1_canEncode_fc78d : ByteArray := prog_43_method_3_code
def yJ1_canEncode_fc78d : MethodName := ⟨RJ1, "canEncode", "(C)Z"⟩
abbrev cJ1_canEncode_9a6ad : ByteArray := prog_43_method_4_code
def yJ1_canEncode_9a6ad : MethodName := ⟨RJ1, "canEncode", "(I)Z"⟩
abbrev cJ1_indexOf_4cfef : ByteArray := prog_43_method_22_code
def yJ1_indexOf_4cfef : MethodName := ⟨RJ1, "indexOf", "([BIII)I"⟩
abbrev cJ1_indexOfChar_4cfef : ByteArray := prog_43_method_23_code
def yJ1_indexOfChar_4cfef : MethodName := ⟨RJ1, "indexOfChar", "([BIII)I"⟩
abbrev cJ1_inflate_0e8fd : ByteArray := prog_43_method_50_code
def yJ1_inflate_0e8fd : MethodName := ⟨RJ1, "inflate", "([BI[BII)V"⟩
def RJ2 : String := "java/lang/StringUTF16"
def TJ2 : u_T := fun k => match k with
  | _ => ("", "", "", false)
def tyJ2 : Nat → FieldType := fun k => match k with
  | _ => .int
abbrev wsJ20 : List Cond := u_ws RJ2 TJ2 0
theorem nmJ2 : ∀ a, a < 0 → ∀ b, b < 0 → a ≠ b → (TJ2 a).2.1 ≠ (TJ2 b).2.1 := by decide +kernel
theorem tyJ2_ok : ∀ k, k < 0 → parseFieldDescriptor (TJ2 k).2.2.1 = some (tyJ2 k) := by decide +kernel
abbrev cJ2_newBytesFor_77867 : ByteArray := prog_44_method_2_code
def yJ2_newBytesFor_77867 : MethodName := ⟨RJ2, "newBytesFor", "(I)[B"⟩
abbrev cJ2_newBytesLength_0f7a4 : ByteArray := prog_44_method_3_code
def yJ2_newBytesLength_0f7a4 : MethodName := ⟨RJ2, "newBytesLength", "(I)I"⟩
abbrev cJ2_putChar_b72d1 : ByteArray := prog_44_method_4_code
def yJ2_putChar_b72d1 : MethodName := ⟨RJ2, "putChar", "([BII)V"⟩
abbrev cJ2_getChar_3b067 : ByteArray := prog_44_method_5_code
def yJ2_getChar_3b067 : MethodName := ⟨RJ2, "getChar", "([BI)C"⟩
abbrev cJ2_length_9d52b : ByteArray := prog_44_method_6_code
def yJ2_length_9d52b : MethodName := ⟨RJ2, "length", "([B)I"⟩
abbrev cJ2_coderFromArrayLen_85cad : ByteArray := prog_44_method_15_code
def yJ2_coderFromArrayLen_85cad : MethodName := ⟨RJ2, "coderFromArrayLen", "([BI)B"⟩
abbrev cJ2_compress_39247 : ByteArray := prog_44_method_17_code
def yJ2_compress_39247 : MethodName := ⟨RJ2, "compress", "([BII)[B"⟩
abbrev cJ2_compress_5af95 : ByteArray := prog_44_method_22_code
def yJ2_compress_5af95 : MethodName := ⟨RJ2, "compress", "([BI[BII)I"⟩
abbrev cJ2_indexOf_4cfef : ByteArray := prog_44_method_40_code
def yJ2_indexOf_4cfef : MethodName := ⟨RJ2, "indexOf", "([BIII)I"⟩
abbrev cJ2_indexOfChar_4cfef : ByteArray := prog_44_method_47_code
def yJ2_indexOfChar_4cfef : MethodName := ⟨RJ2, "indexOfChar", "([BIII)I"⟩
abbrev cJ2_indexOfCharUnsafe_4cfef : ByteArray := prog_44_method_48_code
def yJ2_indexOfCharUnsafe_4cfef : MethodName := ⟨RJ2, "indexOfCharUnsafe", "([BIII)I"⟩
abbrev cJ2_indexOfSupplementary_4cfef : ByteArray := prog_44_method_49_code
def yJ2_indexOfSupplementary_4cfef : MethodName := ⟨RJ2, "indexOfSupplementary", "([BIII)I"⟩
abbrev cJ2_putCharSB_b72d1 : ByteArray := prog_44_method_71_code
def yJ2_putCharSB_b72d1 : MethodName := ⟨RJ2, "putCharSB", "([BII)V"⟩
abbrev cJ2_getChars_46870 : ByteArray := prog_44_method_77_code
def yJ2_getChars_46870 : MethodName := ⟨RJ2, "getChars", "(III[B)I"⟩
abbrev cJ2_putCharsAt_cd4e5 : ByteArray := prog_44_method_81_code
def yJ2_putCharsAt_cd4e5 : MethodName := ⟨RJ2, "putCharsAt", "([BICCCC)I"⟩
abbrev cJ2_charAt_3b067 : ByteArray := prog_44_method_83_code
def yJ2_charAt_3b067 : MethodName := ⟨RJ2, "charAt", "([BI)C"⟩
abbrev cJ2_inflate_0e8fd : ByteArray := prog_44_method_86_code
def yJ2_inflate_0e8fd : MethodName := ⟨RJ2, "inflate", "([BI[BII)V"⟩
abbrev cJ2_getChars_ba4f3 : ByteArray := prog_44_method_89_code
def yJ2_getChars_ba4f3 : MethodName := ⟨RJ2, "getChars", "(II[B)I"⟩
abbrev cJ2_checkIndex_2214a : ByteArray := prog_44_method_91_code
def yJ2_checkIndex_2214a : MethodName := ⟨RJ2, "checkIndex", "(I[B)V"⟩
abbrev cJ2_checkBoundsBeginEnd_d044e : ByteArray := prog_44_method_93_code
def yJ2_checkBoundsBeginEnd_d044e : MethodName := ⟨RJ2, "checkBoundsBeginEnd", "(II[B)V"⟩
abbrev cJ2_checkBoundsOffCount_d044e : ByteArray := prog_44_method_94_code
def yJ2_checkBoundsOffCount_d044e : MethodName := ⟨RJ2, "checkBoundsOffCount", "(II[B)V"⟩
def RJ10 : String := "java/lang/System"
def TJ10 : u_T := fun k => match k with
  | _ => ("", "", "", false)
def tyJ10 : Nat → FieldType := fun k => match k with
  | _ => .int
abbrev wsJ100 : List Cond := u_ws RJ10 TJ10 0
theorem nmJ10 : ∀ a, a < 0 → ∀ b, b < 0 → a ≠ b → (TJ10 a).2.1 ≠ (TJ10 b).2.1 := by decide +kernel
theorem tyJ10_ok : ∀ k, k < 0 → parseFieldDescriptor (TJ10 k).2.2.1 = some (tyJ10 k) := by decide +kernel
def RJxfd54e : String := "java/lang/constant/Constable"
def TJxfd54e : u_T := fun k => match k with
  | _ => ("", "", "", false)
def tyJxfd54e : Nat → FieldType := fun k => match k with
  | _ => .int
abbrev wsJxfd54e0 : List Cond := u_ws RJxfd54e TJxfd54e 0
theorem nmJxfd54e : ∀ a, a < 0 → ∀ b, b < 0 → a ≠ b → (TJxfd54e a).2.1 ≠ (TJxfd54e b).2.1 := by decide +kernel
theorem tyJxfd54e_ok : ∀ k, k < 0 → parseFieldDescriptor (TJxfd54e k).2.2.1 = some (tyJxfd54e k) := by decide +kernel
def RJx3cf43 : String := "java/lang/constant/ConstantDesc"
def TJx3cf43 : u_T := fun k => match k with
  | _ => ("", "", "", false)
def tyJx3cf43 : Nat → FieldType := fun k => match k with
  | _ => .int
abbrev wsJx3cf430 : List Cond := u_ws RJx3cf43 TJx3cf43 0
theorem nmJx3cf43 : ∀ a, a < 0 → ∀ b, b < 0 → a ≠ b → (TJx3cf43 a).2.1 ≠ (TJx3cf43 b).2.1 := by decide +kernel
theorem tyJx3cf43_ok : ∀ k, k < 0 → parseFieldDescriptor (TJx3cf43 k).2.2.1 = some (tyJx3cf43 k) := by decide +kernel
def RJxa1e45 : String := "java/util/AbstractCollection"
def TJxa1e45 : u_T := fun k => match k with
  | _ => ("", "", "", false)
def tyJxa1e45 : Nat → FieldType := fun k => match k with
  | _ => .int
abbrev wsJxa1e450 : List Cond := u_ws RJxa1e45 TJxa1e45 0
theorem nmJxa1e45 : ∀ a, a < 0 → ∀ b, b < 0 → a ≠ b → (TJxa1e45 a).2.1 ≠ (TJxa1e45 b).2.1 := by decide +kernel
theorem tyJxa1e45_ok : ∀ k, k < 0 → parseFieldDescriptor (TJxa1e45 k).2.2.1 = some (tyJxa1e45 k) := by decide +kernel
abbrev cJxa1e45_init_da8c8 : ByteArray := prog_50_method_1_code
def yJxa1e45_init_da8c8 : MethodName := ⟨RJxa1e45, "<init>", "()V"⟩
def RJxc12de : String := "java/util/AbstractList"
def TJxc12de : u_T := fun k => match k with
  | _ => ("", "", "", false)
def tyJxc12de : Nat → FieldType := fun k => match k with
  | _ => .int
abbrev wsJxc12de0 : List Cond := u_ws RJxc12de TJxc12de 0
theorem nmJxc12de : ∀ a, a < 0 → ∀ b, b < 0 → a ≠ b → (TJxc12de a).2.1 ≠ (TJxc12de b).2.1 := by decide +kernel
theorem tyJxc12de_ok : ∀ k, k < 0 → parseFieldDescriptor (TJxc12de k).2.2.1 = some (tyJxc12de k) := by decide +kernel
abbrev cJxc12de_init_da8c8 : ByteArray := prog_51_method_1_code
def yJxc12de_init_da8c8 : MethodName := ⟨RJxc12de, "<init>", "()V"⟩
def RJx35411 : String := "java/util/ArrayList$Itr"
def TJx35411 : u_T := fun k => match k with
  | 0 => ("java/util/ArrayList$Itr", "cursor", "I", false)
  | 1 => ("java/util/ArrayList$Itr", "lastRet", "I", false)
  | 2 => ("java/util/ArrayList$Itr", "expectedModCount", "I", false)
  | _ => ("java/util/ArrayList$Itr", "this$0", "Ljava/util/ArrayList;", true)
def tyJx35411 : Nat → FieldType := fun k => match k with
  | 0 => .int
  | 1 => .int
  | 2 => .int
  | _ => .object "java/util/ArrayList"
abbrev wsJx354110 : List Cond := u_ws RJx35411 TJx35411 4
theorem nmJx35411 : ∀ a, a < 4 → ∀ b, b < 4 → a ≠ b → (TJx35411 a).2.1 ≠ (TJx35411 b).2.1 := by decide +kernel
theorem tyJx35411_ok : ∀ k, k < 4 → parseFieldDescriptor (TJx35411 k).2.2.1 = some (tyJx35411 k) := by decide +kernel
abbrev cJx35411_init_45d68 : ByteArray := prog_53_method_1_code
def yJx35411_init_45d68 : MethodName := ⟨RJx35411, "<init>", "(Ljava/util/ArrayList;)V"⟩
abbrev cJx35411_hasNext_aae02 : ByteArray := prog_53_method_2_code
def yJx35411_hasNext_aae02 : MethodName := ⟨RJx35411, "hasNext", "()Z"⟩
abbrev cJx35411_next_0502b : ByteArray := prog_53_method_3_code
def yJx35411_next_0502b : MethodName := ⟨RJx35411, "next", "()Ljava/lang/Object;"⟩
abbrev cJx35411_checkForComodification_da8c8 : ByteArray := prog_53_method_6_code
def yJx35411_checkForComodification_da8c8 : MethodName := ⟨RJx35411, "checkForComodification", "()V"⟩
def RJx4a65c : String := "java/util/ArrayList"
def TJx4a65c : u_T := fun k => match k with
  | 0 => ("java/util/AbstractList", "modCount", "I", false)
  | 1 => ("java/util/ArrayList", "elementData", "[Ljava/lang/Object;", false)
  | _ => ("java/util/ArrayList", "size", "I", false)
def tyJx4a65c : Nat → FieldType := fun k => match k with
  | 0 => .int
  | 1 => .array (.object "java/lang/Object")
  | _ => .int
abbrev wsJx4a65c0 : List Cond := u_ws RJx4a65c TJx4a65c 3
theorem nmJx4a65c : ∀ a, a < 3 → ∀ b, b < 3 → a ≠ b → (TJx4a65c a).2.1 ≠ (TJx4a65c b).2.1 := by decide +kernel
theorem tyJx4a65c_ok : ∀ k, k < 3 → parseFieldDescriptor (TJx4a65c k).2.2.1 = some (tyJx4a65c k) := by decide +kernel
abbrev cJx4a65c_init_da8c8 : ByteArray := prog_52_method_2_code
def yJx4a65c_init_da8c8 : MethodName := ⟨RJx4a65c, "<init>", "()V"⟩
abbrev cJx4a65c_grow_92f84 : ByteArray := prog_52_method_6_code
def yJx4a65c_grow_92f84 : MethodName := ⟨RJx4a65c, "grow", "(I)[Ljava/lang/Object;"⟩
abbrev cJx4a65c_grow_d5877 : ByteArray := prog_52_method_7_code
def yJx4a65c_grow_d5877 : MethodName := ⟨RJx4a65c, "grow", "()[Ljava/lang/Object;"⟩
abbrev cJx4a65c_size_8abf5 : ByteArray := prog_52_method_8_code
def yJx4a65c_size_8abf5 : MethodName := ⟨RJx4a65c, "size", "()I"⟩
abbrev cJx4a65c_isEmpty_aae02 : ByteArray := prog_52_method_9_code
def yJx4a65c_isEmpty_aae02 : MethodName := ⟨RJx4a65c, "isEmpty", "()Z"⟩
abbrev cJx4a65c_elementData_915e3 : ByteArray := prog_52_method_18_code
def yJx4a65c_elementData_915e3 : MethodName := ⟨RJx4a65c, "elementData", "(I)Ljava/lang/Object;"⟩
abbrev cJx4a65c_get_915e3 : ByteArray := prog_52_method_20_code
def yJx4a65c_get_915e3 : MethodName := ⟨RJx4a65c, "get", "(I)Ljava/lang/Object;"⟩
abbrev cJx4a65c_add_72be8 : ByteArray := prog_52_method_24_code
def yJx4a65c_add_72be8 : MethodName := ⟨RJx4a65c, "add", "(Ljava/lang/Object;[Ljava/lang/Object;I)V"⟩
abbrev cJx4a65c_add_9ea2d : ByteArray := prog_52_method_25_code
def yJx4a65c_add_9ea2d : MethodName := ⟨RJx4a65c, "add", "(Ljava/lang/Object;)Z"⟩
abbrev cJx4a65c_add_7a177 : ByteArray := prog_52_method_26_code
def yJx4a65c_add_7a177 : MethodName := ⟨RJx4a65c, "add", "(ILjava/lang/Object;)V"⟩
abbrev cJx4a65c_clear_da8c8 : ByteArray := prog_52_method_40_code
def yJx4a65c_clear_da8c8 : MethodName := ⟨RJx4a65c, "clear", "()V"⟩
abbrev cJx4a65c_rangeCheckForAdd_d00df : ByteArray := prog_52_method_45_code
def yJx4a65c_rangeCheckForAdd_d00df : MethodName := ⟨RJx4a65c, "rangeCheckForAdd", "(I)V"⟩
abbrev cJx4a65c_outOfBoundsMsg_b52d3 : ByteArray := prog_52_method_46_code
def yJx4a65c_outOfBoundsMsg_b52d3 : MethodName := ⟨RJx4a65c, "outOfBoundsMsg", "(I)Ljava/lang/String;"⟩
abbrev cJx4a65c_iterator_32c93 : ByteArray := prog_52_method_55_code
def yJx4a65c_iterator_32c93 : MethodName := ⟨RJx4a65c, "iterator", "()Ljava/util/Iterator;"⟩
def RJ7 : String := "java/util/Arrays"
def TJ7 : u_T := fun k => match k with
  | _ => ("", "", "", false)
def tyJ7 : Nat → FieldType := fun k => match k with
  | _ => .int
abbrev wsJ70 : List Cond := u_ws RJ7 TJ7 0
theorem nmJ7 : ∀ a, a < 0 → ∀ b, b < 0 → a ≠ b → (TJ7 a).2.1 ≠ (TJ7 b).2.1 := by decide +kernel
theorem tyJ7_ok : ∀ k, k < 0 → parseFieldDescriptor (TJ7 k).2.2.1 = some (tyJ7 k) := by decide +kernel
abbrev cJ7_fill_53178 : ByteArray := prog_54_method_103_code
def yJ7_fill_53178 : MethodName := ⟨RJ7, "fill", "([II)V"⟩
abbrev cJ7_copyOf_1904c : ByteArray := prog_54_method_119_code
def yJ7_copyOf_1904c : MethodName := ⟨RJ7, "copyOf", "([Ljava/lang/Object;I)[Ljava/lang/Object;"⟩
abbrev cJ7_copyOf_6403c : ByteArray := prog_54_method_120_code
def yJ7_copyOf_6403c : MethodName := ⟨RJ7, "copyOf", "([Ljava/lang/Object;ILjava/lang/Class;)[Ljava/lang/Object;"⟩
abbrev cJ7_copyOf_9075b : ByteArray := prog_54_method_121_code
def yJ7_copyOf_9075b : MethodName := ⟨RJ7, "copyOf", "([BI)[B"⟩
abbrev cJ7_checkLength_df160 : ByteArray := prog_54_method_131_code
def yJ7_checkLength_df160 : MethodName := ⟨RJ7, "checkLength", "(II)V"⟩
abbrev cJ7_copyOfRange_39247 : ByteArray := prog_54_method_132_code
def yJ7_copyOfRange_39247 : MethodName := ⟨RJ7, "copyOfRange", "([BII)[B"⟩
abbrev cJ7_copyOfRangeByte_39247 : ByteArray := prog_54_method_133_code
def yJ7_copyOfRangeByte_39247 : MethodName := ⟨RJ7, "copyOfRangeByte", "([BII)[B"⟩
def RJx5ef63 : String := "java/util/Collection"
def TJx5ef63 : u_T := fun k => match k with
  | _ => ("", "", "", false)
def tyJx5ef63 : Nat → FieldType := fun k => match k with
  | _ => .int
abbrev wsJx5ef630 : List Cond := u_ws RJx5ef63 TJx5ef63 0
theorem nmJx5ef63 : ∀ a, a < 0 → ∀ b, b < 0 → a ≠ b → (TJx5ef63 a).2.1 ≠ (TJx5ef63 b).2.1 := by decide +kernel
theorem tyJx5ef63_ok : ∀ k, k < 0 → parseFieldDescriptor (TJx5ef63 k).2.2.1 = some (tyJx5ef63 k) := by decide +kernel
def RJx4d0d8 : String := "java/util/Iterator"
def TJx4d0d8 : u_T := fun k => match k with
  | _ => ("", "", "", false)
def tyJx4d0d8 : Nat → FieldType := fun k => match k with
  | _ => .int
abbrev wsJx4d0d80 : List Cond := u_ws RJx4d0d8 TJx4d0d8 0
theorem nmJx4d0d8 : ∀ a, a < 0 → ∀ b, b < 0 → a ≠ b → (TJx4d0d8 a).2.1 ≠ (TJx4d0d8 b).2.1 := by decide +kernel
theorem tyJx4d0d8_ok : ∀ k, k < 0 → parseFieldDescriptor (TJx4d0d8 k).2.2.1 = some (tyJx4d0d8 k) := by decide +kernel
def RJxbd725 : String := "java/util/List"
def TJxbd725 : u_T := fun k => match k with
  | _ => ("", "", "", false)
def tyJxbd725 : Nat → FieldType := fun k => match k with
  | _ => .int
abbrev wsJxbd7250 : List Cond := u_ws RJxbd725 TJxbd725 0
theorem nmJxbd725 : ∀ a, a < 0 → ∀ b, b < 0 → a ≠ b → (TJxbd725 a).2.1 ≠ (TJxbd725 b).2.1 := by decide +kernel
theorem tyJxbd725_ok : ∀ k, k < 0 → parseFieldDescriptor (TJxbd725 k).2.2.1 = some (tyJxbd725 k) := by decide +kernel
def RJ15 : String := "java/util/Objects"
def TJ15 : u_T := fun k => match k with
  | _ => ("", "", "", false)
def tyJ15 : Nat → FieldType := fun k => match k with
  | _ => .int
abbrev wsJ150 : List Cond := u_ws RJ15 TJ15 0
theorem nmJ15 : ∀ a, a < 0 → ∀ b, b < 0 → a ≠ b → (TJ15 a).2.1 ≠ (TJ15 b).2.1 := by decide +kernel
theorem tyJ15_ok : ∀ k, k < 0 → parseFieldDescriptor (TJ15 k).2.2.1 = some (tyJ15 k) := by decide +kernel
abbrev cJ15_checkIndex_7cf53 : ByteArray := prog_59_method_17_code
def yJ15_checkIndex_7cf53 : MethodName := ⟨RJ15, "checkIndex", "(II)I"⟩
def RJxf0a74 : String := "java/util/RandomAccess"
def TJxf0a74 : u_T := fun k => match k with
  | _ => ("", "", "", false)
def tyJxf0a74 : Nat → FieldType := fun k => match k with
  | _ => .int
abbrev wsJxf0a740 : List Cond := u_ws RJxf0a74 TJxf0a74 0
theorem nmJxf0a74 : ∀ a, a < 0 → ∀ b, b < 0 → a ≠ b → (TJxf0a74 a).2.1 ≠ (TJxf0a74 b).2.1 := by decide +kernel
theorem tyJxf0a74_ok : ∀ k, k < 0 → parseFieldDescriptor (TJxf0a74 k).2.2.1 = some (tyJxf0a74 k) := by decide +kernel
def RJxa66e6 : String := "java/util/SequencedCollection"
def TJxa66e6 : u_T := fun k => match k with
  | _ => ("", "", "", false)
def tyJxa66e6 : Nat → FieldType := fun k => match k with
  | _ => .int
abbrev wsJxa66e60 : List Cond := u_ws RJxa66e6 TJxa66e6 0
theorem nmJxa66e6 : ∀ a, a < 0 → ∀ b, b < 0 → a ≠ b → (TJxa66e6 a).2.1 ≠ (TJxa66e6 b).2.1 := by decide +kernel
theorem tyJxa66e6_ok : ∀ k, k < 0 → parseFieldDescriptor (TJxa66e6 k).2.2.1 = some (tyJxa66e6 k) := by decide +kernel
def RJ8 : String := "jdk/internal/util/ArraysSupport"
def TJ8 : u_T := fun k => match k with
  | _ => ("", "", "", false)
def tyJ8 : Nat → FieldType := fun k => match k with
  | _ => .int
abbrev wsJ80 : List Cond := u_ws RJ8 TJ8 0
theorem nmJ8 : ∀ a, a < 0 → ∀ b, b < 0 → a ≠ b → (TJ8 a).2.1 ≠ (TJ8 b).2.1 := by decide +kernel
theorem tyJ8_ok : ∀ k, k < 0 → parseFieldDescriptor (TJ8 k).2.2.1 = some (tyJ8 k) := by decide +kernel
abbrev cJ8_newLength_cabcc : ByteArray := prog_62_method_27_code
def yJ8_newLength_cabcc : MethodName := ⟨RJ8, "newLength", "(III)I"⟩
abbrev cJ8_hugeLength_7cf53 : ByteArray := prog_62_method_28_code
def yJ8_hugeLength_7cf53 : MethodName := ⟨RJ8, "hugeLength", "(II)I"⟩
def RJ3 : String := "jdk/internal/util/Preconditions"
def TJ3 : u_T := fun k => match k with
  | _ => ("", "", "", false)
def tyJ3 : Nat → FieldType := fun k => match k with
  | _ => .int
abbrev wsJ30 : List Cond := u_ws RJ3 TJ3 0
theorem nmJ3 : ∀ a, a < 0 → ∀ b, b < 0 → a ≠ b → (TJ3 a).2.1 ≠ (TJ3 b).2.1 := by decide +kernel
theorem tyJ3_ok : ∀ k, k < 0 → parseFieldDescriptor (TJ3 k).2.2.1 = some (tyJ3 k) := by decide +kernel
abbrev cJ3_checkIndex_8e157 : ByteArray := prog_63_method_11_code
def yJ3_checkIndex_8e157 : MethodName := ⟨RJ3, "checkIndex", "(IILjava/util/function/BiFunction;)I"⟩
abbrev cJ3_checkFromToIndex_8c36e : ByteArray := prog_63_method_12_code
def yJ3_checkFromToIndex_8c36e : MethodName := ⟨RJ3, "checkFromToIndex", "(IIILjava/util/function/BiFunction;)I"⟩
abbrev cJ3_checkFromIndexSize_8c36e : ByteArray := prog_63_method_13_code
def yJ3_checkFromIndexSize_8c36e : MethodName := ⟨RJ3, "checkFromIndexSize", "(IIILjava/util/function/BiFunction;)I"⟩
def RL : String := "RunwayLoomLaw"
abbrev cL_fly : ByteArray := method_3_code
def yL_fly : MethodName := ⟨RL, "fly", "(LRunwayLoom;III[J)I"⟩
abbrev cL_addAircraft : ByteArray := method_4_code
def yL_addAircraft : MethodName := ⟨RL, "addAircraft", "(LRunwayLoom;IIIIII[J)I"⟩
abbrev cL_fault : ByteArray := method_5_code
def yL_fault : MethodName := ⟨RL, "fault", "(LRunwayLoom;II[J)I"⟩
abbrev cL_addCrew : ByteArray := method_6_code
def yL_addCrew : MethodName := ⟨RL, "addCrew", "(LRunwayLoom;IIIZ[J)I"⟩
abbrev cL_addStand : ByteArray := method_7_code
def yL_addStand : MethodName := ⟨RL, "addStand", "(LRunwayLoom;IZ[J)I"⟩
abbrev cL_turnRunway : ByteArray := method_8_code
def yL_turnRunway : MethodName := ⟨RL, "turnRunway", "(LRunwayLoom;I[J)I"⟩
abbrev cL_ice : ByteArray := method_9_code
def yL_ice : MethodName := ⟨RL, "ice", "(LRunwayLoom;II[J)I"⟩
abbrev cL_setPads : ByteArray := method_10_code
def yL_setPads : MethodName := ⟨RL, "setPads", "(LRunwayLoom;I[J)I"⟩
abbrev cL_addFlight : ByteArray := method_11_code
def yL_addFlight : MethodName := ⟨RL, "addFlight", "(LRunwayLoom;IIIII[J)I"⟩
abbrev cL_slot : ByteArray := method_12_code
def yL_slot : MethodName := ⟨RL, "slot", "(LRunwayLoom;II[J)I"⟩
abbrev cL_trade : ByteArray := method_13_code
def yL_trade : MethodName := ⟨RL, "trade", "(LRunwayLoom;II[J)I"⟩
abbrev cL_hold : ByteArray := method_14_code
def yL_hold : MethodName := ⟨RL, "hold", "(LRunwayLoom;II[J)I"⟩
abbrev cL_waitFor : ByteArray := method_15_code
def yL_waitFor : MethodName := ⟨RL, "waitFor", "(LRunwayLoom;II[J)I"⟩
abbrev cL_swap : ByteArray := method_16_code
def yL_swap : MethodName := ⟨RL, "swap", "(LRunwayLoom;II[J)I"⟩
abbrev cL_cancel : ByteArray := method_17_code
def yL_cancel : MethodName := ⟨RL, "cancel", "(LRunwayLoom;I[J)I"⟩
abbrev cL_addGroup : ByteArray := method_18_code
def yL_addGroup : MethodName := ⟨RL, "addGroup", "(LRunwayLoom;IIIIZ[J)I"⟩
abbrev cL_tell : ByteArray := method_19_code
def yL_tell : MethodName := ⟨RL, "tell", "(LRunwayLoom;CIIII[J)I"⟩
abbrev cL_state : ByteArray := method_20_code
def yL_state : MethodName := ⟨RL, "state", "(LRunwayLoom;I[J)I"⟩
abbrev cL_minuteOf : ByteArray := method_21_code
def yL_minuteOf : MethodName := ⟨RL, "minuteOf", "(LRunwayLoom;IC[J)I"⟩
abbrev cL_standOf : ByteArray := method_22_code
def yL_standOf : MethodName := ⟨RL, "standOf", "(LRunwayLoom;I[J)I"⟩
abbrev cL_cause : ByteArray := method_23_code
def yL_cause : MethodName := ⟨RL, "cause", "(LRunwayLoom;I[J)I"⟩
abbrev cL_root : ByteArray := method_24_code
def yL_root : MethodName := ⟨RL, "root", "(LRunwayLoom;I[J)I"⟩
abbrev cL_lateness : ByteArray := method_25_code
def yL_lateness : MethodName := ⟨RL, "lateness", "(LRunwayLoom;I[J)I"⟩
abbrev cL_lastOf : ByteArray := method_26_code
def yL_lastOf : MethodName := ⟨RL, "lastOf", "(LRunwayLoom;I[J)I"⟩
abbrev cL_isStranded : ByteArray := method_27_code
def yL_isStranded : MethodName := ⟨RL, "isStranded", "(LRunwayLoom;I[J)I"⟩
abbrev cL_logAt : ByteArray := method_28_code
def yL_logAt : MethodName := ⟨RL, "logAt", "(LRunwayLoom;I[J)I"⟩
abbrev cL_recover : ByteArray := method_29_code
def yL_recover : MethodName := ⟨RL, "recover", "(LRunwayLoom;I[J)I"⟩
abbrev cL_isBest : ByteArray := method_30_code
def yL_isBest : MethodName := ⟨RL, "isBest", "(LRunwayLoom;I[J)I"⟩
abbrev cL_onTimeShare : ByteArray := method_31_code
def yL_onTimeShare : MethodName := ⟨RL, "onTimeShare", "(LRunwayLoom;[D)I"⟩
abbrev cL_meanLateness : ByteArray := method_32_code
def yL_meanLateness : MethodName := ⟨RL, "meanLateness", "(LRunwayLoom;[D)I"⟩
abbrev cL_law : ByteArray := code
def yL_law : MethodName := ⟨RL, "law", "([I)Z"⟩
abbrev vwCl : List vw_C := [(RJ0, TJ0, 4), (RJ4, TJ4, 4), (RJ6, TJ6, 1), (RJx00060, TJx00060, 6), (RJx35411, TJx35411, 4), (RJx4a65c, TJx4a65c, 3), (RX0, TX0, 7), (RX1, TX1, 5), (RX2, TX2, 19), (RX3, TX3, 4), (RX4, TX4, 18), (RX5, TX5, 10), (RX6, TX6, 5), (RX7, TX7, 5), (RX8, TX8, 2), (RX9, TX9, 5), (RX10, TX10, 19), (RX11, TX11, 8), (RX12, TX12, 7), (RX13, TX13, 19), (RX14, TX14, 4), (RX15, TX15, 22), (RX16, TX16, 10), (RX17, TX17, 5), (RX18, TX18, 6), (RX19, TX19, 13)]
