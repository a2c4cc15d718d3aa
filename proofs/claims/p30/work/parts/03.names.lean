def RX0 : String := "TokenBus$Counts"
def TX0 : u_T := fun k => match k with
  | 0 => ("TokenBus$Counts", "visits", "I", false)
  | 1 => ("TokenBus$Counts", "sent", "I", false)
  | 2 => ("TokenBus$Counts", "spoilt", "I", false)
  | 3 => ("TokenBus$Counts", "lost", "I", false)
  | 4 => ("TokenBus$Counts", "polledIn", "I", false)
  | 5 => ("TokenBus$Counts", "silenced", "I", false)
  | 6 => ("TokenBus$Counts", "sentTicks", "I", false)
  | 7 => ("TokenBus$Counts", "greatestTurn", "I", false)
  | 8 => ("TokenBus$Counts", "greatestWait", "I", false)
  | _ => ("TokenBus$Counts", "sumOfWaits", "J", false)
def tyX0 : Nat → FieldType := fun k => match k with
  | 0 => .int
  | 1 => .int
  | 2 => .int
  | 3 => .int
  | 4 => .int
  | 5 => .int
  | 6 => .int
  | 7 => .int
  | 8 => .int
  | _ => .long
theorem nmX0 : ∀ a, a < 10 → ∀ b, b < 10 → a ≠ b → (TX0 a).2.1 ≠ (TX0 b).2.1 := by decide +kernel
theorem tyX0_ok : ∀ k, k < 10 → parseFieldDescriptor (TX0 k).2.2.1 = some (tyX0 k) := by decide +kernel
abbrev cX0_init : ByteArray := prog_2_method_1_code
def yX0_init : MethodName := ⟨RX0, "<init>", "()V"⟩
abbrev cX0_copyFrom : ByteArray := prog_2_method_3_code
def yX0_copyFrom : MethodName := ⟨RX0, "copyFrom", "(LTokenBus$Counts;)V"⟩
abbrev cX0_addSent : ByteArray := prog_2_method_4_code
def yX0_addSent : MethodName := ⟨RX0, "addSent", "(II)V"⟩
abbrev cX0_value : ByteArray := prog_2_method_5_code
def yX0_value : MethodName := ⟨RX0, "value", "(I)I"⟩
def RX1 : String := "TokenBus$History"
def TX1 : u_T := fun k => match k with
  | 0 => ("TokenBus$History", "states", "[LTokenBus$Line;", true)
  | _ => ("TokenBus$History", "held", "I", false)
def tyX1 : Nat → FieldType := fun k => match k with
  | 0 => .array (.object "TokenBus$Line")
  | _ => .int
theorem nmX1 : ∀ a, a < 2 → ∀ b, b < 2 → a ≠ b → (TX1 a).2.1 ≠ (TX1 b).2.1 := by decide +kernel
theorem tyX1_ok : ∀ k, k < 2 → parseFieldDescriptor (TX1 k).2.2.1 = some (tyX1 k) := by decide +kernel
abbrev cX1_init : ByteArray := prog_3_method_1_code
def yX1_init : MethodName := ⟨RX1, "<init>", "()V"⟩
abbrev cX1_save : ByteArray := prog_3_method_2_code
def yX1_save : MethodName := ⟨RX1, "save", "(LTokenBus$Line;)V"⟩
abbrev cX1_dropOldest : ByteArray := prog_3_method_3_code
def yX1_dropOldest : MethodName := ⟨RX1, "dropOldest", "()V"⟩
abbrev cX1_restore : ByteArray := prog_3_method_4_code
def yX1_restore : MethodName := ⟨RX1, "restore", "(LTokenBus$Line;)V"⟩
abbrev cX1_stateAt : ByteArray := prog_3_method_5_code
def yX1_stateAt : MethodName := ⟨RX1, "stateAt", "(I)LTokenBus$Line;"⟩
def RX2 : String := "TokenBus$Line"
def TX2 : u_T := fun k => match k with
  | 0 => ("TokenBus$Line", "stations", "[LTokenBus$Station;", true)
  | 1 => ("TokenBus$Line", "messages", "LTokenBus$Messages;", true)
  | 2 => ("TokenBus$Line", "noises", "LTokenBus$Noises;", true)
  | 3 => ("TokenBus$Line", "counts", "LTokenBus$Counts;", true)
  | 4 => ("TokenBus$Line", "log", "LTokenBus$Table;", true)
  | 5 => ("TokenBus$Line", "stationCount", "I", false)
  | 6 => ("TokenBus$Line", "target", "I", false)
  | 7 => ("TokenBus$Line", "slot", "I", false)
  | 8 => ("TokenBus$Line", "gapCount", "I", false)
  | 9 => ("TokenBus$Line", "time", "I", false)
  | _ => ("TokenBus$Line", "holder", "I", false)
def tyX2 : Nat → FieldType := fun k => match k with
  | 0 => .array (.object "TokenBus$Station")
  | 1 => .object "TokenBus$Messages"
  | 2 => .object "TokenBus$Noises"
  | 3 => .object "TokenBus$Counts"
  | 4 => .object "TokenBus$Table"
  | 5 => .int
  | 6 => .int
  | 7 => .int
  | 8 => .int
  | 9 => .int
  | _ => .int
theorem nmX2 : ∀ a, a < 11 → ∀ b, b < 11 → a ≠ b → (TX2 a).2.1 ≠ (TX2 b).2.1 := by decide +kernel
theorem tyX2_ok : ∀ k, k < 11 → parseFieldDescriptor (TX2 k).2.2.1 = some (tyX2 k) := by decide +kernel
abbrev cX2_init : ByteArray := prog_4_method_1_code
def yX2_init : MethodName := ⟨RX2, "<init>", "()V"⟩
abbrev cX2_takeTimes : ByteArray := prog_4_method_3_code
def yX2_takeTimes : MethodName := ⟨RX2, "takeTimes", "(LTokenBus$Line;)V"⟩
abbrev cX2_copyFrom : ByteArray := prog_4_method_4_code
def yX2_copyFrom : MethodName := ⟨RX2, "copyFrom", "(LTokenBus$Line;)V"⟩
abbrev cX2_copyStations : ByteArray := prog_4_method_5_code
def yX2_copyStations : MethodName := ⟨RX2, "copyStations", "(LTokenBus$Line;)V"⟩
abbrev cX2_isFull : ByteArray := prog_4_method_6_code
def yX2_isFull : MethodName := ⟨RX2, "isFull", "()Z"⟩
abbrev cX2_isTooLate : ByteArray := prog_4_method_7_code
def yX2_isTooLate : MethodName := ⟨RX2, "isTooLate", "()Z"⟩
abbrev cX2_stationIn : ByteArray := prog_4_method_8_code
def yX2_stationIn : MethodName := ⟨RX2, "stationIn", "(I)LTokenBus$Station;"⟩
abbrev cX2_stationWith : ByteArray := prog_4_method_9_code
def yX2_stationWith : MethodName := ⟨RX2, "stationWith", "(I)LTokenBus$Station;"⟩
abbrev cX2_placeStation : ByteArray := prog_4_method_10_code
def yX2_placeStation : MethodName := ⟨RX2, "placeStation", "(I)LTokenBus$Station;"⟩
abbrev cX2_switchStation : ByteArray := prog_4_method_11_code
def yX2_switchStation : MethodName := ⟨RX2, "switchStation", "(LTokenBus$Station;Z)V"⟩
abbrev cX2_ringSize : ByteArray := prog_4_method_12_code
def yX2_ringSize : MethodName := ⟨RX2, "ringSize", "()I"⟩
abbrev cX2_isComplete : ByteArray := prog_4_method_13_code
def yX2_isComplete : MethodName := ⟨RX2, "isComplete", "()Z"⟩
abbrev cX2_isWaitedAt : ByteArray := prog_4_method_14_code
def yX2_isWaitedAt : MethodName := ⟨RX2, "isWaitedAt", "()Z"⟩
abbrev cX2_transmit : ByteArray := prog_4_method_15_code
def yX2_transmit : MethodName := ⟨RX2, "transmit", "(I)Z"⟩
abbrev cX2_logVisit : ByteArray := prog_4_method_16_code
def yX2_logVisit : MethodName := ⟨RX2, "logVisit", "(IIII)V"⟩
abbrev cX2_logLength : ByteArray := prog_4_method_17_code
def yX2_logLength : MethodName := ⟨RX2, "logLength", "()I"⟩
abbrev cX2_logValue : ByteArray := prog_4_method_18_code
def yX2_logValue : MethodName := ⟨RX2, "logValue", "(II)I"⟩
abbrev cX2_settingValue : ByteArray := prog_4_method_19_code
def yX2_settingValue : MethodName := ⟨RX2, "settingValue", "(I)I"⟩
abbrev cX2_hashed : ByteArray := prog_4_method_20_code
def yX2_hashed : MethodName := ⟨RX2, "hashed", "(J)J"⟩
abbrev cX2_withStation : ByteArray := prog_4_method_21_code
def yX2_withStation : MethodName := ⟨RX2, "withStation", "(JLTokenBus$Station;)J"⟩
abbrev cX2_withLog : ByteArray := prog_4_method_22_code
def yX2_withLog : MethodName := ⟨RX2, "withLog", "(J)J"⟩
def RX3 : String := "TokenBus$Messages"
def TX3 : u_T := fun k => match k with
  | 0 => ("TokenBus$Messages", "table", "LTokenBus$Table;", true)
  | _ => ("TokenBus$Messages", "number", "I", false)
def tyX3 : Nat → FieldType := fun k => match k with
  | 0 => .object "TokenBus$Table"
  | _ => .int
theorem nmX3 : ∀ a, a < 2 → ∀ b, b < 2 → a ≠ b → (TX3 a).2.1 ≠ (TX3 b).2.1 := by decide +kernel
theorem tyX3_ok : ∀ k, k < 2 → parseFieldDescriptor (TX3 k).2.2.1 = some (tyX3 k) := by decide +kernel
abbrev cX3_init : ByteArray := prog_5_method_1_code
def yX3_init : MethodName := ⟨RX3, "<init>", "()V"⟩
abbrev cX3_number : ByteArray := prog_5_method_2_code
def yX3_number : MethodName := ⟨RX3, "number", "()I"⟩
abbrev cX3_isFull : ByteArray := prog_5_method_3_code
def yX3_isFull : MethodName := ⟨RX3, "isFull", "()Z"⟩
abbrev cX3_has : ByteArray := prog_5_method_4_code
def yX3_has : MethodName := ⟨RX3, "has", "(I)Z"⟩
abbrev cX3_value : ByteArray := prog_5_method_5_code
def yX3_value : MethodName := ⟨RX3, "value", "(II)I"⟩
abbrev cX3_follower : ByteArray := prog_5_method_6_code
def yX3_follower : MethodName := ⟨RX3, "follower", "(I)I"⟩
abbrev cX3_isUrgent : ByteArray := prog_5_method_7_code
def yX3_isUrgent : MethodName := ⟨RX3, "isUrgent", "(I)Z"⟩
abbrev cX3_copyFrom : ByteArray := prog_5_method_9_code
def yX3_copyFrom : MethodName := ⟨RX3, "copyFrom", "(LTokenBus$Messages;)V"⟩
abbrev cX3_add : ByteArray := prog_5_method_10_code
def yX3_add : MethodName := ⟨RX3, "add", "(LTokenBus$Station;III)I"⟩
abbrev cX3_enqueue : ByteArray := prog_5_method_11_code
def yX3_enqueue : MethodName := ⟨RX3, "enqueue", "(LTokenBus$Station;II)V"⟩
abbrev cX3_takeFirst : ByteArray := prog_5_method_13_code
def yX3_takeFirst : MethodName := ⟨RX3, "takeFirst", "(LTokenBus$Station;I)I"⟩
def RX4 : String := "TokenBus$Noises"
def TX4 : u_T := fun k => match k with
  | 0 => ("TokenBus$Noises", "firsts", "[I", true)
  | 1 => ("TokenBus$Noises", "lasts", "[I", true)
  | _ => ("TokenBus$Noises", "number", "I", false)
def tyX4 : Nat → FieldType := fun k => match k with
  | 0 => .array .int
  | 1 => .array .int
  | _ => .int
theorem nmX4 : ∀ a, a < 3 → ∀ b, b < 3 → a ≠ b → (TX4 a).2.1 ≠ (TX4 b).2.1 := by decide +kernel
theorem tyX4_ok : ∀ k, k < 3 → parseFieldDescriptor (TX4 k).2.2.1 = some (tyX4 k) := by decide +kernel
abbrev cX4_init : ByteArray := prog_6_method_1_code
def yX4_init : MethodName := ⟨RX4, "<init>", "()V"⟩
abbrev cX4_isFull : ByteArray := prog_6_method_2_code
def yX4_isFull : MethodName := ⟨RX4, "isFull", "()Z"⟩
abbrev cX4_copyFrom : ByteArray := prog_6_method_4_code
def yX4_copyFrom : MethodName := ⟨RX4, "copyFrom", "(LTokenBus$Noises;)V"⟩
abbrev cX4_add : ByteArray := prog_6_method_5_code
def yX4_add : MethodName := ⟨RX4, "add", "(II)V"⟩
abbrev cX4_touch : ByteArray := prog_6_method_6_code
def yX4_touch : MethodName := ⟨RX4, "touch", "(II)Z"⟩
def RX5 : String := "TokenBus$Reader"
def TX5 : u_T := fun k => match k with
  | _ => ("", "", "", false)
def tyX5 : Nat → FieldType := fun k => match k with
  | _ => .int
theorem nmX5 : ∀ a, a < 0 → ∀ b, b < 0 → a ≠ b → (TX5 a).2.1 ≠ (TX5 b).2.1 := by decide +kernel
theorem tyX5_ok : ∀ k, k < 0 → parseFieldDescriptor (TX5 k).2.2.1 = some (tyX5 k) := by decide +kernel
def RX6 : String := "TokenBus$Station"
def TX6 : u_T := fun k => match k with
  | 0 => ("TokenBus$Station", "address", "I", false)
  | 1 => ("TokenBus$Station", "on", "Z", false)
  | 2 => ("TokenBus$Station", "inRing", "Z", false)
  | 3 => ("TokenBus$Station", "next", "I", false)
  | 4 => ("TokenBus$Station", "gap", "I", false)
  | 5 => ("TokenBus$Station", "first", "I", false)
  | 6 => ("TokenBus$Station", "waiting", "I", false)
  | 7 => ("TokenBus$Station", "visits", "I", false)
  | _ => ("TokenBus$Station", "latest", "I", false)
def tyX6 : Nat → FieldType := fun k => match k with
  | 0 => .int
  | 1 => .boolean
  | 2 => .boolean
  | 3 => .int
  | 4 => .int
  | 5 => .int
  | 6 => .int
  | 7 => .int
  | _ => .int
theorem nmX6 : ∀ a, a < 9 → ∀ b, b < 9 → a ≠ b → (TX6 a).2.1 ≠ (TX6 b).2.1 := by decide +kernel
theorem tyX6_ok : ∀ k, k < 9 → parseFieldDescriptor (TX6 k).2.2.1 = some (tyX6 k) := by decide +kernel
abbrev cX6_init : ByteArray := prog_8_method_1_code
def yX6_init : MethodName := ⟨RX6, "<init>", "()V"⟩
abbrev cX6_reset : ByteArray := prog_8_method_2_code
def yX6_reset : MethodName := ⟨RX6, "reset", "(I)V"⟩
abbrev cX6_copyFrom : ByteArray := prog_8_method_3_code
def yX6_copyFrom : MethodName := ⟨RX6, "copyFrom", "(LTokenBus$Station;)V"⟩
abbrev cX6_value : ByteArray := prog_8_method_4_code
def yX6_value : MethodName := ⟨RX6, "value", "(I)I"⟩
def RX7 : String := "TokenBus$Table"
def TX7 : u_T := fun k => match k with
  | 0 => ("TokenBus$Table", "width", "I", true)
  | _ => ("TokenBus$Table", "cells", "[I", true)
def tyX7 : Nat → FieldType := fun k => match k with
  | 0 => .int
  | _ => .array .int
theorem nmX7 : ∀ a, a < 2 → ∀ b, b < 2 → a ≠ b → (TX7 a).2.1 ≠ (TX7 b).2.1 := by decide +kernel
theorem tyX7_ok : ∀ k, k < 2 → parseFieldDescriptor (TX7 k).2.2.1 = some (tyX7 k) := by decide +kernel
abbrev cX7_init : ByteArray := prog_9_method_1_code
def yX7_init : MethodName := ⟨RX7, "<init>", "(II)V"⟩
abbrev cX7_at : ByteArray := prog_9_method_2_code
def yX7_at : MethodName := ⟨RX7, "at", "(II)I"⟩
abbrev cX7_put : ByteArray := prog_9_method_3_code
def yX7_put : MethodName := ⟨RX7, "put", "(III)V"⟩
abbrev cX7_copyFrom : ByteArray := prog_9_method_4_code
def yX7_copyFrom : MethodName := ⟨RX7, "copyFrom", "(LTokenBus$Table;I)V"⟩
def RX8 : String := "TokenBus$Token"
def TX8 : u_T := fun k => match k with
  | _ => ("", "", "", false)
def tyX8 : Nat → FieldType := fun k => match k with
  | _ => .int
theorem nmX8 : ∀ a, a < 0 → ∀ b, b < 0 → a ≠ b → (TX8 a).2.1 ≠ (TX8 b).2.1 := by decide +kernel
theorem tyX8_ok : ∀ k, k < 0 → parseFieldDescriptor (TX8 k).2.2.1 = some (tyX8 k) := by decide +kernel
abbrev cX8_makeVisit : ByteArray := prog_10_method_2_code
def yX8_makeVisit : MethodName := ⟨RX8, "makeVisit", "(LTokenBus$Line;)V"⟩
abbrev cX8_makeAnew : ByteArray := prog_10_method_3_code
def yX8_makeAnew : MethodName := ⟨RX8, "makeAnew", "(LTokenBus$Line;)LTokenBus$Station;"⟩
abbrev cX8_lowest : ByteArray := prog_10_method_4_code
def yX8_lowest : MethodName := ⟨RX8, "lowest", "(LTokenBus$Line;Z)LTokenBus$Station;"⟩
abbrev cX8_beginVisit : ByteArray := prog_10_method_5_code
def yX8_beginVisit : MethodName := ⟨RX8, "beginVisit", "(LTokenBus$Line;LTokenBus$Station;)I"⟩
abbrev cX8_sendMessages : ByteArray := prog_10_method_6_code
def yX8_sendMessages : MethodName := ⟨RX8, "sendMessages", "(LTokenBus$Line;LTokenBus$Station;I)I"⟩
abbrev cX8_sendFirst : ByteArray := prog_10_method_7_code
def yX8_sendFirst : MethodName := ⟨RX8, "sendFirst", "(LTokenBus$Line;LTokenBus$Station;)Z"⟩
abbrev cX8_pollGap : ByteArray := prog_10_method_8_code
def yX8_pollGap : MethodName := ⟨RX8, "pollGap", "(LTokenBus$Line;LTokenBus$Station;)V"⟩
abbrev cX8_comesIn : ByteArray := prog_10_method_9_code
def yX8_comesIn : MethodName := ⟨RX8, "comesIn", "(LTokenBus$Line;LTokenBus$Station;)Z"⟩
abbrev cX8_passToNext : ByteArray := prog_10_method_10_code
def yX8_passToNext : MethodName := ⟨RX8, "passToNext", "(LTokenBus$Line;LTokenBus$Station;)Z"⟩
abbrev cX8_reaches : ByteArray := prog_10_method_11_code
def yX8_reaches : MethodName := ⟨RX8, "reaches", "(LTokenBus$Line;I)Z"⟩
abbrev cX8_dropSilent : ByteArray := prog_10_method_12_code
def yX8_dropSilent : MethodName := ⟨RX8, "dropSilent", "(LTokenBus$Line;LTokenBus$Station;)V"⟩
abbrev cX8_askOthers : ByteArray := prog_10_method_13_code
def yX8_askOthers : MethodName := ⟨RX8, "askOthers", "(LTokenBus$Line;LTokenBus$Station;)V"⟩
def RX9 : String := "TokenBus"
def TX9 : u_T := fun k => match k with
  | 0 => ("TokenBus", "line", "LTokenBus$Line;", true)
  | 1 => ("TokenBus", "trial", "LTokenBus$Line;", true)
  | 2 => ("TokenBus", "history", "LTokenBus$History;", true)
  | 3 => ("TokenBus", "text", "[B", true)
  | _ => ("TokenBus", "textLength", "I", false)
def tyX9 : Nat → FieldType := fun k => match k with
  | 0 => .object "TokenBus$Line"
  | 1 => .object "TokenBus$Line"
  | 2 => .object "TokenBus$History"
  | 3 => .array .byte
  | _ => .int
theorem nmX9 : ∀ a, a < 5 → ∀ b, b < 5 → a ≠ b → (TX9 a).2.1 ≠ (TX9 b).2.1 := by decide +kernel
theorem tyX9_ok : ∀ k, k < 5 → parseFieldDescriptor (TX9 k).2.2.1 = some (tyX9 k) := by decide +kernel
abbrev cX9_init : ByteArray := prog_1_method_1_code
def yX9_init : MethodName := ⟨RX9, "<init>", "()V"⟩
abbrev cX9_addStation : ByteArray := prog_1_method_2_code
def yX9_addStation : MethodName := ⟨RX9, "addStation", "(I)I"⟩
abbrev cX9_setOn : ByteArray := prog_1_method_3_code
def yX9_setOn : MethodName := ⟨RX9, "setOn", "(IZ)Z"⟩
abbrev cX9_setTimes : ByteArray := prog_1_method_4_code
def yX9_setTimes : MethodName := ⟨RX9, "setTimes", "(III)I"⟩
abbrev cX9_give : ByteArray := prog_1_method_5_code
def yX9_give : MethodName := ⟨RX9, "give", "(III)I"⟩
abbrev cX9_addNoise : ByteArray := prog_1_method_6_code
def yX9_addNoise : MethodName := ⟨RX9, "addNoise", "(II)I"⟩
abbrev cX9_run : ByteArray := prog_1_method_7_code
def yX9_run : MethodName := ⟨RX9, "run", "(I)I"⟩
abbrev cX9_loseToken : ByteArray := prog_1_method_8_code
def yX9_loseToken : MethodName := ⟨RX9, "loseToken", "()I"⟩
abbrev cX9_setting : ByteArray := prog_1_method_9_code
def yX9_setting : MethodName := ⟨RX9, "setting", "(I)I"⟩
abbrev cX9_station : ByteArray := prog_1_method_10_code
def yX9_station : MethodName := ⟨RX9, "station", "(II)I"⟩
abbrev cX9_addressAt : ByteArray := prog_1_method_11_code
def yX9_addressAt : MethodName := ⟨RX9, "addressAt", "(I)I"⟩
abbrev cX9_message : ByteArray := prog_1_method_13_code
def yX9_message : MethodName := ⟨RX9, "message", "(II)I"⟩
abbrev cX9_count : ByteArray := prog_1_method_14_code
def yX9_count : MethodName := ⟨RX9, "count", "(I)I"⟩
abbrev cX9_logged : ByteArray := prog_1_method_16_code
def yX9_logged : MethodName := ⟨RX9, "logged", "()I"⟩
abbrev cX9_visit : ByteArray := prog_1_method_17_code
def yX9_visit : MethodName := ⟨RX9, "visit", "(II)I"⟩
abbrev cX9_greatestRotation : ByteArray := prog_1_method_18_code
def yX9_greatestRotation : MethodName := ⟨RX9, "greatestRotation", "()I"⟩
abbrev cX9_waits : ByteArray := prog_1_method_19_code
def yX9_waits : MethodName := ⟨RX9, "waits", "(Z)D"⟩
abbrev cX9_use : ByteArray := prog_1_method_20_code
def yX9_use : MethodName := ⟨RX9, "use", "()D"⟩
abbrev cX9_waitOf : ByteArray := prog_1_method_21_code
def yX9_waitOf : MethodName := ⟨RX9, "waitOf", "(I)I"⟩
abbrev cX9_completeAfter : ByteArray := prog_1_method_22_code
def yX9_completeAfter : MethodName := ⟨RX9, "completeAfter", "()I"⟩
abbrev cX9_leastTarget : ByteArray := prog_1_method_23_code
def yX9_leastTarget : MethodName := ⟨RX9, "leastTarget", "(I)I"⟩
abbrev cX9_undo : ByteArray := prog_1_method_27_code
def yX9_undo : MethodName := ⟨RX9, "undo", "()I"⟩
abbrev cX9_digest : ByteArray := prog_1_method_28_code
def yX9_digest : MethodName := ⟨RX9, "digest", "()J"⟩
abbrev cX9_isWithin : ByteArray := prog_1_method_29_code
def yX9_isWithin : MethodName := ⟨RX9, "isWithin", "(III)Z"⟩
abbrev cX9_isAddress : ByteArray := prog_1_method_30_code
def yX9_isAddress : MethodName := ⟨RX9, "isAddress", "(I)Z"⟩
abbrev cX9_addressBehind : ByteArray := prog_1_method_31_code
def yX9_addressBehind : MethodName := ⟨RX9, "addressBehind", "(I)I"⟩
abbrev cX9_mixed : ByteArray := prog_1_method_32_code
def yX9_mixed : MethodName := ⟨RX9, "mixed", "(JJ)J"⟩
abbrev cX9_sendsAll : ByteArray := prog_1_method_33_code
def yX9_sendsAll : MethodName := ⟨RX9, "sendsAll", "(II)Z"⟩
def RX10 : String := "TokenBusModel"
def TX10 : u_T := fun k => match k with
  | _ => ("", "", "", false)
def tyX10 : Nat → FieldType := fun k => match k with
  | _ => .int
theorem nmX10 : ∀ a, a < 0 → ∀ b, b < 0 → a ≠ b → (TX10 a).2.1 ≠ (TX10 b).2.1 := by decide +kernel
theorem tyX10_ok : ∀ k, k < 0 → parseFieldDescriptor (TX10 k).2.2.1 = some (tyX10 k) := by decide +kernel
def RL : String := "TokenBusLaw"
abbrev cL_cell : ByteArray := method_2_code
def yL_cell : MethodName := ⟨RL, "cell", "([II)I"⟩
abbrev cL_up : ByteArray := method_3_code
def yL_up : MethodName := ⟨RL, "up", "(II)I"⟩
abbrev cL_adds : ByteArray := method_4_code
def yL_adds : MethodName := ⟨RL, "adds", "(LTokenBus;LTokenBus;[I)Z"⟩
abbrev cL_isStep : ByteArray := method_5_code
def yL_isStep : MethodName := ⟨RL, "isStep", "(LTokenBus;LTokenBus;I)Z"⟩
abbrev cL_areAlike : ByteArray := method_6_code
def yL_areAlike : MethodName := ⟨RL, "areAlike", "(LTokenBus;LTokenBus;)Z"⟩
abbrev cL_isSound : ByteArray := method_7_code
def yL_isSound : MethodName := ⟨RL, "isSound", "(LTokenBus;)Z"⟩
abbrev cL_law : ByteArray := code
def yL_law : MethodName := ⟨RL, "law", "([I)Z"⟩

/-- the classes; Noises twice, so that the numbers are those of claims/whole -/
abbrev vwCl : List vw_C := [(RX0, TX0, 10), (RX1, TX1, 2), (RX2, TX2, 11), (RX3, TX3, 2), (RX4, TX4, 3), (RX4, TX4, 3), (RX6, TX6, 9), (RX7, TX7, 2), (RX9, TX9, 5)]
def zNest : List (String × Nat × MethodName × String) := [("TokenBus$Line", 19, ⟨"TokenBus$Messages", "<init>", "()V"⟩, "TokenBus"), ("TokenBus$Line", 26, ⟨"TokenBus$Noises", "<init>", "()V"⟩, "TokenBus"), ("TokenBus$Line", 33, ⟨"TokenBus$Counts", "<init>", "()V"⟩, "TokenBus"), ("TokenBus$Line", 60, ⟨"TokenBus$Station", "<init>", "()V"⟩, "TokenBus"), ("TokenBus$Token", 149, ⟨"TokenBus", "addressBehind", "(I)I"⟩, "TokenBus"), ("TokenBus$Line", 156, ⟨"TokenBus", "mixed", "(JJ)J"⟩, "TokenBus")]
