def RX0 : String := "ChargeYard$Booking"
def TX0 : u_T := fun k => match k with
  | _ => ("", "", "", false)
def tyX0 : Nat → FieldType := fun k => match k with
  | _ => .int
theorem nmX0 : ∀ a, a < 0 → ∀ b, b < 0 → a ≠ b → (TX0 a).2.1 ≠ (TX0 b).2.1 := by decide +kernel
theorem tyX0_ok : ∀ k, k < 0 → parseFieldDescriptor (TX0 k).2.2.1 = some (tyX0 k) := by decide +kernel
abbrev cX0_holdsAt : ByteArray := prog_2_method_2_code
def yX0_holdsAt : MethodName := ⟨RX0, "holdsAt", "(I)Z"⟩
abbrev cX0_isLateAt : ByteArray := prog_2_method_3_code
def yX0_isLateAt : MethodName := ⟨RX0, "isLateAt", "(I)Z"⟩
def RX1 : String := "ChargeYard$Car"
def TX1 : u_T := fun k => match k with
  | 0 => ("ChargeYard$Car", "number", "I", true)
  | 1 => ("ChargeYard$Car", "capacity", "I", true)
  | 2 => ("ChargeYard$Car", "most", "I", true)
  | 3 => ("ChargeYard$Car", "holds", "I", false)
  | _ => ("ChargeYard$Car", "isPlugged", "Z", false)
def tyX1 : Nat → FieldType := fun k => match k with
  | 0 => .int
  | 1 => .int
  | 2 => .int
  | 3 => .int
  | _ => .boolean
theorem nmX1 : ∀ a, a < 5 → ∀ b, b < 5 → a ≠ b → (TX1 a).2.1 ≠ (TX1 b).2.1 := by decide +kernel
theorem tyX1_ok : ∀ k, k < 5 → parseFieldDescriptor (TX1 k).2.2.1 = some (tyX1 k) := by decide +kernel
abbrev cX1_init : ByteArray := prog_3_method_1_code
def yX1_init : MethodName := ⟨RX1, "<init>", "(IIII)V"⟩
abbrev cX1_isFull : ByteArray := prog_3_method_2_code
def yX1_isFull : MethodName := ⟨RX1, "isFull", "()Z"⟩
abbrev cX1_wants : ByteArray := prog_3_method_3_code
def yX1_wants : MethodName := ⟨RX1, "wants", "(I)I"⟩
def RX2 : String := "ChargeYard$Card"
def TX2 : u_T := fun k => match k with
  | 0 => ("ChargeYard$Card", "firm", "LChargeYard$Firm;", true)
  | 1 => ("ChargeYard$Card", "rank", "I", true)
  | 2 => ("ChargeYard$Card", "isGood", "Z", false)
  | 3 => ("ChargeYard$Card", "isListed", "Z", false)
  | _ => ("ChargeYard$Card", "debt", "I", false)
def tyX2 : Nat → FieldType := fun k => match k with
  | 0 => .object "ChargeYard$Firm"
  | 1 => .int
  | 2 => .boolean
  | 3 => .boolean
  | _ => .int
theorem nmX2 : ∀ a, a < 5 → ∀ b, b < 5 → a ≠ b → (TX2 a).2.1 ≠ (TX2 b).2.1 := by decide +kernel
theorem tyX2_ok : ∀ k, k < 5 → parseFieldDescriptor (TX2 k).2.2.1 = some (tyX2 k) := by decide +kernel
abbrev cX2_init : ByteArray := prog_4_method_1_code
def yX2_init : MethodName := ⟨RX2, "<init>", "(LChargeYard$Firm;I)V"⟩
def RX3 : String := "ChargeYard$Firm"
def TX3 : u_T := fun k => match k with
  | 0 => ("ChargeYard$Firm", "prices", "LChargeYard$Tariff;", false)
  | _ => ("ChargeYard$Firm", "balance", "I", false)
def tyX3 : Nat → FieldType := fun k => match k with
  | 0 => .object "ChargeYard$Tariff"
  | _ => .int
theorem nmX3 : ∀ a, a < 2 → ∀ b, b < 2 → a ≠ b → (TX3 a).2.1 ≠ (TX3 b).2.1 := by decide +kernel
theorem tyX3_ok : ∀ k, k < 2 → parseFieldDescriptor (TX3 k).2.2.1 = some (tyX3 k) := by decide +kernel
abbrev cX3_init : ByteArray := prog_5_method_1_code
def yX3_init : MethodName := ⟨RX3, "<init>", "()V"⟩
def RX4 : String := "ChargeYard$Session"
def TX4 : u_T := fun k => match k with
  | 0 => ("ChargeYard$Session", "socket", "LChargeYard$Socket;", true)
  | 1 => ("ChargeYard$Session", "car", "LChargeYard$Car;", true)
  | 2 => ("ChargeYard$Session", "card", "LChargeYard$Card;", true)
  | 3 => ("ChargeYard$Session", "prices", "LChargeYard$Tariff;", true)
  | 4 => ("ChargeYard$Session", "values", "LChargeYard$Values;", true)
  | 5 => ("ChargeYard$Session", "energy", "I", false)
  | 6 => ("ChargeYard$Session", "latest", "I", false)
  | 7 => ("ChargeYard$Session", "latestHeard", "I", false)
  | 8 => ("ChargeYard$Session", "isBegunDown", "Z", false)
  | 9 => ("ChargeYard$Session", "isUnplugged", "Z", false)
  | 10 => ("ChargeYard$Session", "isBilled", "Z", false)
  | 11 => ("ChargeYard$Session", "isDisputed", "Z", false)
  | 12 => ("ChargeYard$Session", "bound", "I", false)
  | _ => ("ChargeYard$Session", "flow", "I", false)
def tyX4 : Nat → FieldType := fun k => match k with
  | 0 => .object "ChargeYard$Socket"
  | 1 => .object "ChargeYard$Car"
  | 2 => .object "ChargeYard$Card"
  | 3 => .object "ChargeYard$Tariff"
  | 4 => .object "ChargeYard$Values"
  | 5 => .int
  | 6 => .int
  | 7 => .int
  | 8 => .boolean
  | 9 => .boolean
  | 10 => .boolean
  | 11 => .boolean
  | 12 => .int
  | _ => .int
theorem nmX4 : ∀ a, a < 14 → ∀ b, b < 14 → a ≠ b → (TX4 a).2.1 ≠ (TX4 b).2.1 := by decide +kernel
theorem tyX4_ok : ∀ k, k < 14 → parseFieldDescriptor (TX4 k).2.2.1 = some (tyX4 k) := by decide +kernel
abbrev cX4_init : ByteArray := prog_6_method_1_code
def yX4_init : MethodName := ⟨RX4, "<init>", "(LChargeYard$Socket;LChargeYard$Car;LChargeYard$Card;I)V"⟩
abbrev cX4_boundIn : ByteArray := prog_6_method_2_code
def yX4_boundIn : MethodName := ⟨RX4, "boundIn", "(I)I"⟩
abbrev cX4_mostWhileDown : ByteArray := prog_6_method_3_code
def yX4_mostWhileDown : MethodName := ⟨RX4, "mostWhileDown", "(I)I"⟩
abbrev cX4_takesMore : ByteArray := prog_6_method_4_code
def yX4_takesMore : MethodName := ⟨RX4, "takesMore", "()Z"⟩
abbrev cX4_isOfTwoFirms : ByteArray := prog_6_method_5_code
def yX4_isOfTwoFirms : MethodName := ⟨RX4, "isOfTwoFirms", "()Z"⟩
abbrev cX4_billHeard : ByteArray := prog_6_method_6_code
def yX4_billHeard : MethodName := ⟨RX4, "billHeard", "()I"⟩
abbrev cX4_billAll : ByteArray := prog_6_method_7_code
def yX4_billAll : MethodName := ⟨RX4, "billAll", "()I"⟩
abbrev cX4_state : ByteArray := prog_6_method_8_code
def yX4_state : MethodName := ⟨RX4, "state", "()I"⟩
def RX5 : String := "ChargeYard$Socket"
def TX5 : u_T := fun k => match k with
  | 0 => ("ChargeYard$Socket", "number", "I", true)
  | 1 => ("ChargeYard$Socket", "firm", "LChargeYard$Firm;", true)
  | 2 => ("ChargeYard$Socket", "most", "I", true)
  | 3 => ("ChargeYard$Socket", "isFaulty", "Z", false)
  | 4 => ("ChargeYard$Socket", "isUp", "Z", false)
  | 5 => ("ChargeYard$Socket", "downSince", "I", false)
  | 6 => ("ChargeYard$Socket", "session", "LChargeYard$Session;", false)
  | _ => ("ChargeYard$Socket", "bookings", "Ljava/util/ArrayList;", true)
def tyX5 : Nat → FieldType := fun k => match k with
  | 0 => .int
  | 1 => .object "ChargeYard$Firm"
  | 2 => .int
  | 3 => .boolean
  | 4 => .boolean
  | 5 => .int
  | 6 => .object "ChargeYard$Session"
  | _ => .object "java/util/ArrayList"
theorem nmX5 : ∀ a, a < 8 → ∀ b, b < 8 → a ≠ b → (TX5 a).2.1 ≠ (TX5 b).2.1 := by decide +kernel
theorem tyX5_ok : ∀ k, k < 8 → parseFieldDescriptor (TX5 k).2.2.1 = some (tyX5 k) := by decide +kernel
abbrev cX5_init : ByteArray := prog_7_method_1_code
def yX5_init : MethodName := ⟨RX5, "<init>", "(ILChargeYard$Firm;I)V"⟩
def RX6 : String := "ChargeYard$Tally"
def TX6 : u_T := fun k => match k with
  | 0 => ("ChargeYard$Tally", "energy", "I", false)
  | 1 => ("ChargeYard$Tally", "dayEnergy", "I", false)
  | 2 => ("ChargeYard$Tally", "nightEnergy", "I", false)
  | _ => ("ChargeYard$Tally", "idleMinutes", "I", false)
def tyX6 : Nat → FieldType := fun k => match k with
  | 0 => .int
  | 1 => .int
  | 2 => .int
  | _ => .int
theorem nmX6 : ∀ a, a < 4 → ∀ b, b < 4 → a ≠ b → (TX6 a).2.1 ≠ (TX6 b).2.1 := by decide +kernel
theorem tyX6_ok : ∀ k, k < 4 → parseFieldDescriptor (TX6 k).2.2.1 = some (tyX6 k) := by decide +kernel
abbrev cX6_init : ByteArray := prog_8_method_1_code
def yX6_init : MethodName := ⟨RX6, "<init>", "()V"⟩
abbrev cX6_take : ByteArray := prog_8_method_2_code
def yX6_take : MethodName := ⟨RX6, "take", "(IIZ)V"⟩
abbrev cX6_cents : ByteArray := prog_8_method_3_code
def yX6_cents : MethodName := ⟨RX6, "cents", "(LChargeYard$Tariff;)I"⟩
def RX7 : String := "ChargeYard$Tariff"
def TX7 : u_T := fun k => match k with
  | 0 => ("ChargeYard$Tariff", "start", "I", true)
  | 1 => ("ChargeYard$Tariff", "byDay", "I", true)
  | 2 => ("ChargeYard$Tariff", "byNight", "I", true)
  | _ => ("ChargeYard$Tariff", "idling", "I", true)
def tyX7 : Nat → FieldType := fun k => match k with
  | 0 => .int
  | 1 => .int
  | 2 => .int
  | _ => .int
theorem nmX7 : ∀ a, a < 4 → ∀ b, b < 4 → a ≠ b → (TX7 a).2.1 ≠ (TX7 b).2.1 := by decide +kernel
theorem tyX7_ok : ∀ k, k < 4 → parseFieldDescriptor (TX7 k).2.2.1 = some (tyX7 k) := by decide +kernel
abbrev cX7_init : ByteArray := prog_9_method_1_code
def yX7_init : MethodName := ⟨RX7, "<init>", "(IIII)V"⟩
def RX8 : String := "ChargeYard$Values"
def TX8 : u_T := fun k => match k with
  | 0 => ("ChargeYard$Values", "firstMinute", "I", true)
  | 1 => ("ChargeYard$Values", "row", "[I", false)
  | 2 => ("ChargeYard$Values", "made", "I", false)
  | 3 => ("ChargeYard$Values", "heard", "I", false)
  | _ => ("ChargeYard$Values", "ofHeard", "LChargeYard$Tally;", true)
def tyX8 : Nat → FieldType := fun k => match k with
  | 0 => .int
  | 1 => .array .int
  | 2 => .int
  | 3 => .int
  | _ => .object "ChargeYard$Tally"
theorem nmX8 : ∀ a, a < 5 → ∀ b, b < 5 → a ≠ b → (TX8 a).2.1 ≠ (TX8 b).2.1 := by decide +kernel
theorem tyX8_ok : ∀ k, k < 5 → parseFieldDescriptor (TX8 k).2.2.1 = some (tyX8 k) := by decide +kernel
abbrev cX8_init : ByteArray := prog_10_method_1_code
def yX8_init : MethodName := ⟨RX8, "<init>", "(I)V"⟩
abbrev cX8_make : ByteArray := prog_10_method_2_code
def yX8_make : MethodName := ⟨RX8, "make", "(IZ)V"⟩
abbrev cX8_hearAll : ByteArray := prog_10_method_3_code
def yX8_hearAll : MethodName := ⟨RX8, "hearAll", "()I"⟩
abbrev cX8_ofAll : ByteArray := prog_10_method_4_code
def yX8_ofAll : MethodName := ⟨RX8, "ofAll", "()LChargeYard$Tally;"⟩
abbrev cX8_takeInto : ByteArray := prog_10_method_5_code
def yX8_takeInto : MethodName := ⟨RX8, "takeInto", "(LChargeYard$Tally;I)V"⟩
def RX9 : String := "ChargeYard"
def TX9 : u_T := fun k => match k with
  | 0 => ("ChargeYard", "firms", "Ljava/util/ArrayList;", true)
  | 1 => ("ChargeYard", "sockets", "Ljava/util/ArrayList;", true)
  | 2 => ("ChargeYard", "cars", "Ljava/util/ArrayList;", true)
  | 3 => ("ChargeYard", "cards", "Ljava/util/ArrayList;", true)
  | 4 => ("ChargeYard", "sessions", "Ljava/util/ArrayList;", true)
  | 5 => ("ChargeYard", "running", "Ljava/util/ArrayList;", true)
  | 6 => ("ChargeYard", "minute", "I", false)
  | 7 => ("ChargeYard", "limit", "I", false)
  | 8 => ("ChargeYard", "sun", "I", false)
  | 9 => ("ChargeYard", "degrees", "I", false)
  | _ => ("ChargeYard", "overloadMinutes", "I", false)
def tyX9 : Nat → FieldType := fun k => match k with
  | 0 => .object "java/util/ArrayList"
  | 1 => .object "java/util/ArrayList"
  | 2 => .object "java/util/ArrayList"
  | 3 => .object "java/util/ArrayList"
  | 4 => .object "java/util/ArrayList"
  | 5 => .object "java/util/ArrayList"
  | 6 => .int
  | 7 => .int
  | 8 => .int
  | 9 => .int
  | _ => .int
theorem nmX9 : ∀ a, a < 11 → ∀ b, b < 11 → a ≠ b → (TX9 a).2.1 ≠ (TX9 b).2.1 := by decide +kernel
theorem tyX9_ok : ∀ k, k < 11 → parseFieldDescriptor (TX9 k).2.2.1 = some (tyX9 k) := by decide +kernel
abbrev cX9_init : ByteArray := prog_1_method_1_code
def yX9_init : MethodName := ⟨RX9, "<init>", "()V"⟩
abbrev cX9_socket : ByteArray := prog_1_method_2_code
def yX9_socket : MethodName := ⟨RX9, "socket", "(II)I"⟩
abbrev cX9_car : ByteArray := prog_1_method_3_code
def yX9_car : MethodName := ⟨RX9, "car", "(III)I"⟩
abbrev cX9_card : ByteArray := prog_1_method_4_code
def yX9_card : MethodName := ⟨RX9, "card", "(II)I"⟩
abbrev cX9_good : ByteArray := prog_1_method_5_code
def yX9_good : MethodName := ⟨RX9, "good", "(IZ)Z"⟩
abbrev cX9_set : ByteArray := prog_1_method_6_code
def yX9_set : MethodName := ⟨RX9, "set", "(II)I"⟩
abbrev cX9_fault : ByteArray := prog_1_method_7_code
def yX9_fault : MethodName := ⟨RX9, "fault", "(IZ)Z"⟩
abbrev cX9_link : ByteArray := prog_1_method_8_code
def yX9_link : MethodName := ⟨RX9, "link", "(IZ)I"⟩
abbrev cX9_tariff : ByteArray := prog_1_method_9_code
def yX9_tariff : MethodName := ⟨RX9, "tariff", "(IIIII)V"⟩
abbrev cX9_plug : ByteArray := prog_1_method_11_code
def yX9_plug : MethodName := ⟨RX9, "plug", "(III)I"⟩
abbrev cX9_unplug : ByteArray := prog_1_method_12_code
def yX9_unplug : MethodName := ⟨RX9, "unplug", "(I)I"⟩
abbrev cX9_pass : ByteArray := prog_1_method_13_code
def yX9_pass : MethodName := ⟨RX9, "pass", "(I)I"⟩
abbrev cX9_of : ByteArray := prog_1_method_14_code
def yX9_of : MethodName := ⟨RX9, "of", "(II)I"⟩
abbrev cX9_charge : ByteArray := prog_1_method_15_code
def yX9_charge : MethodName := ⟨RX9, "charge", "(I)I"⟩
abbrev cX9_power : ByteArray := prog_1_method_16_code
def yX9_power : MethodName := ⟨RX9, "power", "(I)I"⟩
abbrev cX9_powerAnew : ByteArray := prog_1_method_17_code
def yX9_powerAnew : MethodName := ⟨RX9, "powerAnew", "(I)I"⟩
abbrev cX9_overloads : ByteArray := prog_1_method_18_code
def yX9_overloads : MethodName := ⟨RX9, "overloads", "()I"⟩
abbrev cX9_bill : ByteArray := prog_1_method_19_code
def yX9_bill : MethodName := ⟨RX9, "bill", "(I)I"⟩
abbrev cX9_billAnew : ByteArray := prog_1_method_20_code
def yX9_billAnew : MethodName := ⟨RX9, "billAnew", "(I)I"⟩
abbrev cX9_owes : ByteArray := prog_1_method_22_code
def yX9_owes : MethodName := ⟨RX9, "owes", "(I)I"⟩
abbrev cX9_account : ByteArray := prog_1_method_23_code
def yX9_account : MethodName := ⟨RX9, "account", "(I)I"⟩
abbrev cX9_firmAt : ByteArray := prog_1_method_24_code
def yX9_firmAt : MethodName := ⟨RX9, "firmAt", "(I)LChargeYard$Firm;"⟩
abbrev cX9_socketAt : ByteArray := prog_1_method_25_code
def yX9_socketAt : MethodName := ⟨RX9, "socketAt", "(I)LChargeYard$Socket;"⟩
abbrev cX9_carAt : ByteArray := prog_1_method_26_code
def yX9_carAt : MethodName := ⟨RX9, "carAt", "(I)LChargeYard$Car;"⟩
abbrev cX9_cardAt : ByteArray := prog_1_method_27_code
def yX9_cardAt : MethodName := ⟨RX9, "cardAt", "(I)LChargeYard$Card;"⟩
abbrev cX9_sessionAt : ByteArray := prog_1_method_28_code
def yX9_sessionAt : MethodName := ⟨RX9, "sessionAt", "(I)LChargeYard$Session;"⟩
abbrev cX9_needWithin : ByteArray := prog_1_method_29_code
def yX9_needWithin : MethodName := ⟨RX9, "needWithin", "(III)V"⟩
abbrev cX9_needRoom : ByteArray := prog_1_method_30_code
def yX9_needRoom : MethodName := ⟨RX9, "needRoom", "(II)V"⟩
abbrev cX9_setLimit : ByteArray := prog_1_method_31_code
def yX9_setLimit : MethodName := ⟨RX9, "setLimit", "(I)I"⟩
abbrev cX9_setSun : ByteArray := prog_1_method_32_code
def yX9_setSun : MethodName := ⟨RX9, "setSun", "(I)I"⟩
abbrev cX9_setDegrees : ByteArray := prog_1_method_33_code
def yX9_setDegrees : MethodName := ⟨RX9, "setDegrees", "(I)I"⟩
abbrev cX9_goDown : ByteArray := prog_1_method_34_code
def yX9_goDown : MethodName := ⟨RX9, "goDown", "(LChargeYard$Socket;)V"⟩
abbrev cX9_hearWaiting : ByteArray := prog_1_method_35_code
def yX9_hearWaiting : MethodName := ⟨RX9, "hearWaiting", "(LChargeYard$Socket;)I"⟩
abbrev cX9_isBookedByAnother : ByteArray := prog_1_method_37_code
def yX9_isBookedByAnother : MethodName := ⟨RX9, "isBookedByAnother", "(LChargeYard$Socket;LChargeYard$Card;)Z"⟩
abbrev cX9_useBooking : ByteArray := prog_1_method_38_code
def yX9_useBooking : MethodName := ⟨RX9, "useBooking", "(LChargeYard$Socket;LChargeYard$Card;)V"⟩
abbrev cX9_dropLateBookings : ByteArray := prog_1_method_39_code
def yX9_dropLateBookings : MethodName := ⟨RX9, "dropLateBookings", "()V"⟩
abbrev cX9_refusalOf : ByteArray := prog_1_method_40_code
def yX9_refusalOf : MethodName := ⟨RX9, "refusalOf", "(LChargeYard$Socket;LChargeYard$Car;LChargeYard$Card;)I"⟩
abbrev cX9_begin : ByteArray := prog_1_method_41_code
def yX9_begin : MethodName := ⟨RX9, "begin", "(LChargeYard$Session;)V"⟩
abbrev cX9_leaveRunning : ByteArray := prog_1_method_42_code
def yX9_leaveRunning : MethodName := ⟨RX9, "leaveRunning", "(LChargeYard$Session;)V"⟩
abbrev cX9_serveFirst : ByteArray := prog_1_method_43_code
def yX9_serveFirst : MethodName := ⟨RX9, "serveFirst", "()I"⟩
abbrev cX9_serveRanks : ByteArray := prog_1_method_44_code
def yX9_serveRanks : MethodName := ⟨RX9, "serveRanks", "(IZ)I"⟩
abbrev cX9_shareByLevels : ByteArray := prog_1_method_45_code
def yX9_shareByLevels : MethodName := ⟨RX9, "shareByLevels", "(I)V"⟩
abbrev cX9_raise : ByteArray := prog_1_method_46_code
def yX9_raise : MethodName := ⟨RX9, "raise", "(II)V"⟩
abbrev cX9_shareWattByWatt : ByteArray := prog_1_method_47_code
def yX9_shareWattByWatt : MethodName := ⟨RX9, "shareWattByWatt", "(I)V"⟩
abbrev cX9_passMinute : ByteArray := prog_1_method_48_code
def yX9_passMinute : MethodName := ⟨RX9, "passMinute", "()V"⟩
abbrev cX9_letFlow : ByteArray := prog_1_method_49_code
def yX9_letFlow : MethodName := ⟨RX9, "letFlow", "(LChargeYard$Session;)V"⟩
abbrev cX9_listCards : ByteArray := prog_1_method_50_code
def yX9_listCards : MethodName := ⟨RX9, "listCards", "()V"⟩
abbrev cX9_settleIfDue : ByteArray := prog_1_method_51_code
def yX9_settleIfDue : MethodName := ⟨RX9, "settleIfDue", "(LChargeYard$Session;)V"⟩
abbrev cX9_owe : ByteArray := prog_1_method_52_code
def yX9_owe : MethodName := ⟨RX9, "owe", "(LChargeYard$Session;II)V"⟩
abbrev cX9_partOf : ByteArray := prog_1_method_53_code
def yX9_partOf : MethodName := ⟨RX9, "partOf", "(II)I"⟩
def RX10 : String := "ChargeYardModel"
def TX10 : u_T := fun k => match k with
  | _ => ("", "", "", false)
def tyX10 : Nat → FieldType := fun k => match k with
  | _ => .int
theorem nmX10 : ∀ a, a < 0 → ∀ b, b < 0 → a ≠ b → (TX10 a).2.1 ≠ (TX10 b).2.1 := by decide +kernel
theorem tyX10_ok : ∀ k, k < 0 → parseFieldDescriptor (TX10 k).2.2.1 = some (tyX10 k) := by decide +kernel
def RJx145de : String := "java/io/Serializable"
def TJx145de : u_T := fun k => match k with
  | _ => ("", "", "", false)
def tyJx145de : Nat → FieldType := fun k => match k with
  | _ => .int
theorem nmJx145de : ∀ a, a < 0 → ∀ b, b < 0 → a ≠ b → (TJx145de a).2.1 ≠ (TJx145de b).2.1 := by decide +kernel
theorem tyJx145de_ok : ∀ k, k < 0 → parseFieldDescriptor (TJx145de k).2.2.1 = some (tyJx145de k) := by decide +kernel
def RJx8e188 : String := "java/lang/Cloneable"
def TJx8e188 : u_T := fun k => match k with
  | _ => ("", "", "", false)
def tyJx8e188 : Nat → FieldType := fun k => match k with
  | _ => .int
theorem nmJx8e188 : ∀ a, a < 0 → ∀ b, b < 0 → a ≠ b → (TJx8e188 a).2.1 ≠ (TJx8e188 b).2.1 := by decide +kernel
theorem tyJx8e188_ok : ∀ k, k < 0 → parseFieldDescriptor (TJx8e188 k).2.2.1 = some (tyJx8e188 k) := by decide +kernel
def RJxab1ab : String := "java/lang/Iterable"
def TJxab1ab : u_T := fun k => match k with
  | _ => ("", "", "", false)
def tyJxab1ab : Nat → FieldType := fun k => match k with
  | _ => .int
theorem nmJxab1ab : ∀ a, a < 0 → ∀ b, b < 0 → a ≠ b → (TJxab1ab a).2.1 ≠ (TJxab1ab b).2.1 := by decide +kernel
theorem tyJxab1ab_ok : ∀ k, k < 0 → parseFieldDescriptor (TJxab1ab k).2.2.1 = some (tyJxab1ab k) := by decide +kernel
def RJ9 : String := "java/lang/Math"
def TJ9 : u_T := fun k => match k with
  | _ => ("", "", "", false)
def tyJ9 : Nat → FieldType := fun k => match k with
  | _ => .int
theorem nmJ9 : ∀ a, a < 0 → ∀ b, b < 0 → a ≠ b → (TJ9 a).2.1 ≠ (TJ9 b).2.1 := by decide +kernel
theorem tyJ9_ok : ∀ k, k < 0 → parseFieldDescriptor (TJ9 k).2.2.1 = some (tyJ9 k) := by decide +kernel
abbrev cJ9_max_7cf53 : ByteArray := prog_20_method_65_code
def yJ9_max_7cf53 : MethodName := ⟨RJ9, "max", "(II)I"⟩
abbrev cJ9_min_7cf53 : ByteArray := prog_20_method_69_code
def yJ9_min_7cf53 : MethodName := ⟨RJ9, "min", "(II)I"⟩
def RJ0 : String := "java/lang/String"
def TJ0 : u_T := fun k => match k with
  | _ => ("", "", "", false)
def tyJ0 : Nat → FieldType := fun k => match k with
  | _ => .int
theorem nmJ0 : ∀ a, a < 0 → ∀ b, b < 0 → a ≠ b → (TJ0 a).2.1 ≠ (TJ0 b).2.1 := by decide +kernel
theorem tyJ0_ok : ∀ k, k < 0 → parseFieldDescriptor (TJ0 k).2.2.1 = some (tyJ0 k) := by decide +kernel
def RJ10 : String := "java/lang/System"
def TJ10 : u_T := fun k => match k with
  | _ => ("", "", "", false)
def tyJ10 : Nat → FieldType := fun k => match k with
  | _ => .int
theorem nmJ10 : ∀ a, a < 0 → ∀ b, b < 0 → a ≠ b → (TJ10 a).2.1 ≠ (TJ10 b).2.1 := by decide +kernel
theorem tyJ10_ok : ∀ k, k < 0 → parseFieldDescriptor (TJ10 k).2.2.1 = some (tyJ10 k) := by decide +kernel
def RJxa1e45 : String := "java/util/AbstractCollection"
def TJxa1e45 : u_T := fun k => match k with
  | _ => ("", "", "", false)
def tyJxa1e45 : Nat → FieldType := fun k => match k with
  | _ => .int
theorem nmJxa1e45 : ∀ a, a < 0 → ∀ b, b < 0 → a ≠ b → (TJxa1e45 a).2.1 ≠ (TJxa1e45 b).2.1 := by decide +kernel
theorem tyJxa1e45_ok : ∀ k, k < 0 → parseFieldDescriptor (TJxa1e45 k).2.2.1 = some (tyJxa1e45 k) := by decide +kernel
abbrev cJxa1e45_init_da8c8 : ByteArray := prog_25_method_1_code
def yJxa1e45_init_da8c8 : MethodName := ⟨RJxa1e45, "<init>", "()V"⟩
def RJxc12de : String := "java/util/AbstractList"
def TJxc12de : u_T := fun k => match k with
  | _ => ("", "", "", false)
def tyJxc12de : Nat → FieldType := fun k => match k with
  | _ => .int
theorem nmJxc12de : ∀ a, a < 0 → ∀ b, b < 0 → a ≠ b → (TJxc12de a).2.1 ≠ (TJxc12de b).2.1 := by decide +kernel
theorem tyJxc12de_ok : ∀ k, k < 0 → parseFieldDescriptor (TJxc12de k).2.2.1 = some (tyJxc12de k) := by decide +kernel
abbrev cJxc12de_init_da8c8 : ByteArray := prog_26_method_1_code
def yJxc12de_init_da8c8 : MethodName := ⟨RJxc12de, "<init>", "()V"⟩
def RJx4a65c : String := "java/util/ArrayList"
def TJx4a65c : u_T := fun k => match k with
  | 0 => ("java/util/AbstractList", "modCount", "I", false)
  | 1 => ("java/util/ArrayList", "elementData", "[Ljava/lang/Object;", false)
  | _ => ("java/util/ArrayList", "size", "I", false)
def tyJx4a65c : Nat → FieldType := fun k => match k with
  | 0 => .int
  | 1 => .array (.object "java/lang/Object")
  | _ => .int
theorem nmJx4a65c : ∀ a, a < 3 → ∀ b, b < 3 → a ≠ b → (TJx4a65c a).2.1 ≠ (TJx4a65c b).2.1 := by decide +kernel
theorem tyJx4a65c_ok : ∀ k, k < 3 → parseFieldDescriptor (TJx4a65c k).2.2.1 = some (tyJx4a65c k) := by decide +kernel
abbrev cJx4a65c_init_da8c8 : ByteArray := prog_27_method_2_code
def yJx4a65c_init_da8c8 : MethodName := ⟨RJx4a65c, "<init>", "()V"⟩
abbrev cJx4a65c_grow_92f84 : ByteArray := prog_27_method_6_code
def yJx4a65c_grow_92f84 : MethodName := ⟨RJx4a65c, "grow", "(I)[Ljava/lang/Object;"⟩
abbrev cJx4a65c_grow_d5877 : ByteArray := prog_27_method_7_code
def yJx4a65c_grow_d5877 : MethodName := ⟨RJx4a65c, "grow", "()[Ljava/lang/Object;"⟩
abbrev cJx4a65c_size_8abf5 : ByteArray := prog_27_method_8_code
def yJx4a65c_size_8abf5 : MethodName := ⟨RJx4a65c, "size", "()I"⟩
abbrev cJx4a65c_elementData_915e3 : ByteArray := prog_27_method_18_code
def yJx4a65c_elementData_915e3 : MethodName := ⟨RJx4a65c, "elementData", "(I)Ljava/lang/Object;"⟩
abbrev cJx4a65c_get_915e3 : ByteArray := prog_27_method_20_code
def yJx4a65c_get_915e3 : MethodName := ⟨RJx4a65c, "get", "(I)Ljava/lang/Object;"⟩
abbrev cJx4a65c_add_72be8 : ByteArray := prog_27_method_24_code
def yJx4a65c_add_72be8 : MethodName := ⟨RJx4a65c, "add", "(Ljava/lang/Object;[Ljava/lang/Object;I)V"⟩
abbrev cJx4a65c_add_9ea2d : ByteArray := prog_27_method_25_code
def yJx4a65c_add_9ea2d : MethodName := ⟨RJx4a65c, "add", "(Ljava/lang/Object;)Z"⟩
abbrev cJx4a65c_remove_915e3 : ByteArray := prog_27_method_29_code
def yJx4a65c_remove_915e3 : MethodName := ⟨RJx4a65c, "remove", "(I)Ljava/lang/Object;"⟩
abbrev cJx4a65c_fastRemove_b59b0 : ByteArray := prog_27_method_39_code
def yJx4a65c_fastRemove_b59b0 : MethodName := ⟨RJx4a65c, "fastRemove", "([Ljava/lang/Object;I)V"⟩
def RJ7 : String := "java/util/Arrays"
def TJ7 : u_T := fun k => match k with
  | _ => ("", "", "", false)
def tyJ7 : Nat → FieldType := fun k => match k with
  | _ => .int
theorem nmJ7 : ∀ a, a < 0 → ∀ b, b < 0 → a ≠ b → (TJ7 a).2.1 ≠ (TJ7 b).2.1 := by decide +kernel
theorem tyJ7_ok : ∀ k, k < 0 → parseFieldDescriptor (TJ7 k).2.2.1 = some (tyJ7 k) := by decide +kernel
abbrev cJ7_copyOf_1904c : ByteArray := prog_28_method_119_code
def yJ7_copyOf_1904c : MethodName := ⟨RJ7, "copyOf", "([Ljava/lang/Object;I)[Ljava/lang/Object;"⟩
abbrev cJ7_copyOf_6403c : ByteArray := prog_28_method_120_code
def yJ7_copyOf_6403c : MethodName := ⟨RJ7, "copyOf", "([Ljava/lang/Object;ILjava/lang/Class;)[Ljava/lang/Object;"⟩
abbrev cJ7_copyOf_59c91 : ByteArray := prog_28_method_123_code
def yJ7_copyOf_59c91 : MethodName := ⟨RJ7, "copyOf", "([II)[I"⟩
def RJx5ef63 : String := "java/util/Collection"
def TJx5ef63 : u_T := fun k => match k with
  | _ => ("", "", "", false)
def tyJx5ef63 : Nat → FieldType := fun k => match k with
  | _ => .int
theorem nmJx5ef63 : ∀ a, a < 0 → ∀ b, b < 0 → a ≠ b → (TJx5ef63 a).2.1 ≠ (TJx5ef63 b).2.1 := by decide +kernel
theorem tyJx5ef63_ok : ∀ k, k < 0 → parseFieldDescriptor (TJx5ef63 k).2.2.1 = some (tyJx5ef63 k) := by decide +kernel
def RJxbd725 : String := "java/util/List"
def TJxbd725 : u_T := fun k => match k with
  | _ => ("", "", "", false)
def tyJxbd725 : Nat → FieldType := fun k => match k with
  | _ => .int
theorem nmJxbd725 : ∀ a, a < 0 → ∀ b, b < 0 → a ≠ b → (TJxbd725 a).2.1 ≠ (TJxbd725 b).2.1 := by decide +kernel
theorem tyJxbd725_ok : ∀ k, k < 0 → parseFieldDescriptor (TJxbd725 k).2.2.1 = some (tyJxbd725 k) := by decide +kernel
def RJ15 : String := "java/util/Objects"
def TJ15 : u_T := fun k => match k with
  | _ => ("", "", "", false)
def tyJ15 : Nat → FieldType := fun k => match k with
  | _ => .int
theorem nmJ15 : ∀ a, a < 0 → ∀ b, b < 0 → a ≠ b → (TJ15 a).2.1 ≠ (TJ15 b).2.1 := by decide +kernel
theorem tyJ15_ok : ∀ k, k < 0 → parseFieldDescriptor (TJ15 k).2.2.1 = some (tyJ15 k) := by decide +kernel
abbrev cJ15_checkIndex_7cf53 : ByteArray := prog_31_method_17_code
def yJ15_checkIndex_7cf53 : MethodName := ⟨RJ15, "checkIndex", "(II)I"⟩
def RJxf0a74 : String := "java/util/RandomAccess"
def TJxf0a74 : u_T := fun k => match k with
  | _ => ("", "", "", false)
def tyJxf0a74 : Nat → FieldType := fun k => match k with
  | _ => .int
theorem nmJxf0a74 : ∀ a, a < 0 → ∀ b, b < 0 → a ≠ b → (TJxf0a74 a).2.1 ≠ (TJxf0a74 b).2.1 := by decide +kernel
theorem tyJxf0a74_ok : ∀ k, k < 0 → parseFieldDescriptor (TJxf0a74 k).2.2.1 = some (tyJxf0a74 k) := by decide +kernel
def RJxa66e6 : String := "java/util/SequencedCollection"
def TJxa66e6 : u_T := fun k => match k with
  | _ => ("", "", "", false)
def tyJxa66e6 : Nat → FieldType := fun k => match k with
  | _ => .int
theorem nmJxa66e6 : ∀ a, a < 0 → ∀ b, b < 0 → a ≠ b → (TJxa66e6 a).2.1 ≠ (TJxa66e6 b).2.1 := by decide +kernel
theorem tyJxa66e6_ok : ∀ k, k < 0 → parseFieldDescriptor (TJxa66e6 k).2.2.1 = some (tyJxa66e6 k) := by decide +kernel
def RJ8 : String := "jdk/internal/util/ArraysSupport"
def TJ8 : u_T := fun k => match k with
  | _ => ("", "", "", false)
def tyJ8 : Nat → FieldType := fun k => match k with
  | _ => .int
theorem nmJ8 : ∀ a, a < 0 → ∀ b, b < 0 → a ≠ b → (TJ8 a).2.1 ≠ (TJ8 b).2.1 := by decide +kernel
theorem tyJ8_ok : ∀ k, k < 0 → parseFieldDescriptor (TJ8 k).2.2.1 = some (tyJ8 k) := by decide +kernel
abbrev cJ8_newLength_cabcc : ByteArray := prog_34_method_27_code
def yJ8_newLength_cabcc : MethodName := ⟨RJ8, "newLength", "(III)I"⟩
abbrev cJ8_hugeLength_7cf53 : ByteArray := prog_34_method_28_code
def yJ8_hugeLength_7cf53 : MethodName := ⟨RJ8, "hugeLength", "(II)I"⟩
def RJ3 : String := "jdk/internal/util/Preconditions"
def TJ3 : u_T := fun k => match k with
  | _ => ("", "", "", false)
def tyJ3 : Nat → FieldType := fun k => match k with
  | _ => .int
theorem nmJ3 : ∀ a, a < 0 → ∀ b, b < 0 → a ≠ b → (TJ3 a).2.1 ≠ (TJ3 b).2.1 := by decide +kernel
theorem tyJ3_ok : ∀ k, k < 0 → parseFieldDescriptor (TJ3 k).2.2.1 = some (tyJ3 k) := by decide +kernel
abbrev cJ3_checkIndex_8e157 : ByteArray := prog_35_method_11_code
def yJ3_checkIndex_8e157 : MethodName := ⟨RJ3, "checkIndex", "(IILjava/util/function/BiFunction;)I"⟩
def RL : String := "ChargeYardLaw"
abbrev cL_cell : ByteArray := method_2_code
def yL_cell : MethodName := ⟨RL, "cell", "([II)I"⟩
abbrev cL_at : ByteArray := method_3_code
def yL_at : MethodName := ⟨RL, "at", "(II)I"⟩
abbrev cL_law : ByteArray := code
def yL_law : MethodName := ⟨RL, "law", "([I)Z"⟩
abbrev vwCl : List vw_C := [(RJx4a65c, TJx4a65c, 3), (RX1, TX1, 5), (RX1, TX1, 5), (RX2, TX2, 5), (RX3, TX3, 2), (RX4, TX4, 14), (RX5, TX5, 8), (RX6, TX6, 4), (RX7, TX7, 4), (RX8, TX8, 5), (RX9, TX9, 11)]
