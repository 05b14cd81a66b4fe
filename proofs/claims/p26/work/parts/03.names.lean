/-! names, fields (by the kit's printed list), words of the tables by their places -/
def RX0 : String := "SkyloadBureau$Dealing"
def TX0 : u_T := fun k => match k with
  | 0 => ("SkyloadBureau$Dealing", "fixed", "LSkyloadBureau$Line;", true)
  | 1 => ("SkyloadBureau$Dealing", "listed", "LSkyloadBureau$Line;", true)
  | 2 => ("SkyloadBureau$Dealing", "slotCount", "I", false)
  | 3 => ("SkyloadBureau$Dealing", "freeCount", "I", false)
  | _ => ("SkyloadBureau$Dealing", "listedWithout", "I", false)
def tyX0 : Nat → FieldType := fun k => match k with
  | 0 => .object "SkyloadBureau$Line"
  | 1 => .object "SkyloadBureau$Line"
  | 2 => .int
  | 3 => .int
  | _ => .int
abbrev wsX00 : List Cond := u_ws RX0 TX0 5
theorem nmX0 : ∀ a, a < 5 → ∀ b, b < 5 → a ≠ b → (TX0 a).2.1 ≠ (TX0 b).2.1 := by decide +kernel
theorem tyX0_ok : ∀ k, k < 5 → parseFieldDescriptor (TX0 k).2.2.1 = some (tyX0 k) := by decide +kernel
abbrev cX0_init : ByteArray := prog_2_method_1_code
def yX0_init : MethodName := ⟨RX0, "<init>", "()V"⟩
abbrev cX0_dealOut : ByteArray := prog_2_method_2_code
def yX0_dealOut : MethodName := ⟨RX0, "dealOut", "(LSkyloadBureau$Regulation;Ljava/util/ArrayList;)V"⟩
abbrev cX0_lineUp : ByteArray := prog_2_method_3_code
def yX0_lineUp : MethodName := ⟨RX0, "lineUp", "(LSkyloadBureau$Regulation;Ljava/util/ArrayList;)V"⟩
abbrev cX0_serve : ByteArray := prog_2_method_4_code
def yX0_serve : MethodName := ⟨RX0, "serve", "(LSkyloadBureau$Line;LSkyloadBureau$Regulation;)I"⟩
abbrev cX0_penaltyBySlots : ByteArray := prog_2_method_5_code
def yX0_penaltyBySlots : MethodName := ⟨RX0, "penaltyBySlots", "(LSkyloadBureau$Regulation;Ljava/util/ArrayList;I)I"⟩
def RX1 : String := "SkyloadBureau$Flight"
def TX1 : u_T := fun k => match k with
  | 0 => ("SkyloadBureau$Flight", "company", "I", true)
  | 1 => ("SkyloadBureau$Flight", "planned", "I", false)
  | 2 => ("SkyloadBureau$Flight", "state", "I", false)
  | 3 => ("SkyloadBureau$Flight", "isExempt", "Z", false)
  | 4 => ("SkyloadBureau$Flight", "slotTime", "I", false)
  | 5 => ("SkyloadBureau$Flight", "ruling", "I", false)
  | 6 => ("SkyloadBureau$Flight", "wentAt", "I", false)
  | 7 => ("SkyloadBureau$Flight", "latestMessage", "I", false)
  | 8 => ("SkyloadBureau$Flight", "entryCount", "I", false)
  | 9 => ("SkyloadBureau$Flight", "latestBehind", "I", false)
  | 10 => ("SkyloadBureau$Flight", "behinds", "[I", true)
  | 11 => ("SkyloadBureau$Flight", "stays", "[I", true)
  | 12 => ("SkyloadBureau$Flight", "reckonedDue", "I", false)
  | _ => ("SkyloadBureau$Flight", "reckonedRuling", "I", false)
def tyX1 : Nat → FieldType := fun k => match k with
  | 0 => .int
  | 1 => .int
  | 2 => .int
  | 3 => .boolean
  | 4 => .int
  | 5 => .int
  | 6 => .int
  | 7 => .int
  | 8 => .int
  | 9 => .int
  | 10 => .array .int
  | 11 => .array .int
  | 12 => .int
  | _ => .int
abbrev wsX10 : List Cond := u_ws RX1 TX1 14
theorem nmX1 : ∀ a, a < 14 → ∀ b, b < 14 → a ≠ b → (TX1 a).2.1 ≠ (TX1 b).2.1 := by decide +kernel
theorem tyX1_ok : ∀ k, k < 14 → parseFieldDescriptor (TX1 k).2.2.1 = some (tyX1 k) := by decide +kernel
abbrev cX1_init : ByteArray := prog_3_method_1_code
def yX1_init : MethodName := ⟨RX1, "<init>", "(II)V"⟩
abbrev cX1_canEnterNext : ByteArray := prog_3_method_2_code
def yX1_canEnterNext : MethodName := ⟨RX1, "canEnterNext", "(II)Z"⟩
abbrev cX1_addEntry : ByteArray := prog_3_method_3_code
def yX1_addEntry : MethodName := ⟨RX1, "addEntry", "(III)V"⟩
abbrev cX1_behindAt : ByteArray := prog_3_method_4_code
def yX1_behindAt : MethodName := ⟨RX1, "behindAt", "(I)I"⟩
abbrev cX1_stayAt : ByteArray := prog_3_method_5_code
def yX1_stayAt : MethodName := ⟨RX1, "stayAt", "(I)I"⟩
abbrev cX1_enters : ByteArray := prog_3_method_6_code
def yX1_enters : MethodName := ⟨RX1, "enters", "(I)Z"⟩
abbrev cX1_departure : ByteArray := prog_3_method_7_code
def yX1_departure : MethodName := ⟨RX1, "departure", "()I"⟩
abbrev cX1_timeOver : ByteArray := prog_3_method_8_code
def yX1_timeOver : MethodName := ⟨RX1, "timeOver", "(I)I"⟩
abbrev cX1_loads : ByteArray := prog_3_method_9_code
def yX1_loads : MethodName := ⟨RX1, "loads", "(I)Z"⟩
abbrev cX1_isInside : ByteArray := prog_3_method_10_code
def yX1_isInside : MethodName := ⟨RX1, "isInside", "(II)Z"⟩
abbrev cX1_isFixed : ByteArray := prog_3_method_11_code
def yX1_isFixed : MethodName := ⟨RX1, "isFixed", "()Z"⟩
abbrev cX1_isListed : ByteArray := prog_3_method_12_code
def yX1_isListed : MethodName := ⟨RX1, "isListed", "()Z"⟩
abbrev cX1_lineTime : ByteArray := prog_3_method_13_code
def yX1_lineTime : MethodName := ⟨RX1, "lineTime", "(I)I"⟩
abbrev cX1_loseSlotTime : ByteArray := prog_3_method_14_code
def yX1_loseSlotTime : MethodName := ⟨RX1, "loseSlotTime", "()V"⟩
abbrev cX1_delay : ByteArray := prog_3_method_15_code
def yX1_delay : MethodName := ⟨RX1, "delay", "()I"⟩
abbrev cX1_charge : ByteArray := prog_3_method_16_code
def yX1_charge : MethodName := ⟨RX1, "charge", "()I"⟩
abbrev cX1_wentOutOfWindow : ByteArray := prog_3_method_17_code
def yX1_wentOutOfWindow : MethodName := ⟨RX1, "wentOutOfWindow", "()Z"⟩
abbrev cX1_ledgerLine : ByteArray := prog_3_method_18_code
def yX1_ledgerLine : MethodName := ⟨RX1, "ledgerLine", "(I)I"⟩
abbrev cX1_forgetReckoned : ByteArray := prog_3_method_19_code
def yX1_forgetReckoned : MethodName := ⟨RX1, "forgetReckoned", "()V"⟩
abbrev cX1_reckon : ByteArray := prog_3_method_20_code
def yX1_reckon : MethodName := ⟨RX1, "reckon", "(II)V"⟩
abbrev cX1_takeReckoned : ByteArray := prog_3_method_21_code
def yX1_takeReckoned : MethodName := ⟨RX1, "takeReckoned", "(Z)V"⟩
abbrev cX1_sharesRuling : ByteArray := prog_3_method_22_code
def yX1_sharesRuling : MethodName := ⟨RX1, "sharesRuling", "(LSkyloadBureau$Flight;)Z"⟩
abbrev cX1_follow : ByteArray := prog_3_method_23_code
def yX1_follow : MethodName := ⟨RX1, "follow", "(II)V"⟩
def RX2 : String := "SkyloadBureau$Line"
def TX2 : u_T := fun k => match k with
  | 0 => ("SkyloadBureau$Line", "numbers", "[I", true)
  | 1 => ("SkyloadBureau$Line", "times", "[I", true)
  | 2 => ("SkyloadBureau$Line", "slots", "[I", true)
  | 3 => ("SkyloadBureau$Line", "targets", "[I", true)
  | _ => ("SkyloadBureau$Line", "count", "I", false)
def tyX2 : Nat → FieldType := fun k => match k with
  | 0 => .array .int
  | 1 => .array .int
  | 2 => .array .int
  | 3 => .array .int
  | _ => .int
abbrev wsX20 : List Cond := u_ws RX2 TX2 5
theorem nmX2 : ∀ a, a < 5 → ∀ b, b < 5 → a ≠ b → (TX2 a).2.1 ≠ (TX2 b).2.1 := by decide +kernel
theorem tyX2_ok : ∀ k, k < 5 → parseFieldDescriptor (TX2 k).2.2.1 = some (tyX2 k) := by decide +kernel
abbrev cX2_init : ByteArray := prog_4_method_1_code
def yX2_init : MethodName := ⟨RX2, "<init>", "()V"⟩
abbrev cX2_clear : ByteArray := prog_4_method_2_code
def yX2_clear : MethodName := ⟨RX2, "clear", "()V"⟩
abbrev cX2_add : ByteArray := prog_4_method_3_code
def yX2_add : MethodName := ⟨RX2, "add", "(II)V"⟩
abbrev cX2_has : ByteArray := prog_4_method_4_code
def yX2_has : MethodName := ⟨RX2, "has", "(I)Z"⟩
abbrev cX2_timeAt : ByteArray := prog_4_method_5_code
def yX2_timeAt : MethodName := ⟨RX2, "timeAt", "(I)I"⟩
abbrev cX2_give : ByteArray := prog_4_method_6_code
def yX2_give : MethodName := ⟨RX2, "give", "(III)V"⟩
abbrev cX2_hasGiven : ByteArray := prog_4_method_7_code
def yX2_hasGiven : MethodName := ⟨RX2, "hasGiven", "(I)Z"⟩
abbrev cX2_placeOf : ByteArray := prog_4_method_8_code
def yX2_placeOf : MethodName := ⟨RX2, "placeOf", "(I)I"⟩
abbrev cX2_penaltyOf : ByteArray := prog_4_method_9_code
def yX2_penaltyOf : MethodName := ⟨RX2, "penaltyOf", "(I)I"⟩
abbrev cX2_countAheadOf : ByteArray := prog_4_method_10_code
def yX2_countAheadOf : MethodName := ⟨RX2, "countAheadOf", "(II)I"⟩
abbrev cX2_canTake : ByteArray := prog_4_method_11_code
def yX2_canTake : MethodName := ⟨RX2, "canTake", "(II)Z"⟩
def RX3 : String := "SkyloadBureau$Regulation"
def TX3 : u_T := fun k => match k with
  | 0 => ("SkyloadBureau$Regulation", "sector", "I", true)
  | 1 => ("SkyloadBureau$Regulation", "from", "I", true)
  | 2 => ("SkyloadBureau$Regulation", "to", "I", true)
  | 3 => ("SkyloadBureau$Regulation", "rate", "I", false)
  | _ => ("SkyloadBureau$Regulation", "isEnded", "Z", false)
def tyX3 : Nat → FieldType := fun k => match k with
  | 0 => .int
  | 1 => .int
  | 2 => .int
  | 3 => .int
  | _ => .boolean
abbrev wsX30 : List Cond := u_ws RX3 TX3 5
theorem nmX3 : ∀ a, a < 5 → ∀ b, b < 5 → a ≠ b → (TX3 a).2.1 ≠ (TX3 b).2.1 := by decide +kernel
theorem tyX3_ok : ∀ k, k < 5 → parseFieldDescriptor (TX3 k).2.2.1 = some (tyX3 k) := by decide +kernel
abbrev cX3_init : ByteArray := prog_5_method_1_code
def yX3_init : MethodName := ⟨RX3, "<init>", "(IIII)V"⟩
abbrev cX3_holdsAt : ByteArray := prog_5_method_2_code
def yX3_holdsAt : MethodName := ⟨RX3, "holdsAt", "(I)Z"⟩
abbrev cX3_slotCount : ByteArray := prog_5_method_3_code
def yX3_slotCount : MethodName := ⟨RX3, "slotCount", "()I"⟩
abbrev cX3_slotBegin : ByteArray := prog_5_method_4_code
def yX3_slotBegin : MethodName := ⟨RX3, "slotBegin", "(I)I"⟩
abbrev cX3_slotEnd : ByteArray := prog_5_method_5_code
def yX3_slotEnd : MethodName := ⟨RX3, "slotEnd", "(I)I"⟩
def RX4 : String := "SkyloadBureau"
def TX4 : u_T := fun k => match k with
  | 0 => ("SkyloadBureau", "flights", "Ljava/util/ArrayList;", true)
  | 1 => ("SkyloadBureau", "regulations", "Ljava/util/ArrayList;", true)
  | 2 => ("SkyloadBureau", "dealing", "LSkyloadBureau$Dealing;", true)
  | _ => ("SkyloadBureau", "entering", "LSkyloadBureau$Line;", true)
def tyX4 : Nat → FieldType := fun k => match k with
  | 0 => .object "java/util/ArrayList"
  | 1 => .object "java/util/ArrayList"
  | 2 => .object "SkyloadBureau$Dealing"
  | _ => .object "SkyloadBureau$Line"
abbrev wsX40 : List Cond := u_ws RX4 TX4 4
theorem nmX4 : ∀ a, a < 4 → ∀ b, b < 4 → a ≠ b → (TX4 a).2.1 ≠ (TX4 b).2.1 := by decide +kernel
theorem tyX4_ok : ∀ k, k < 4 → parseFieldDescriptor (TX4 k).2.2.1 = some (tyX4 k) := by decide +kernel
abbrev cX4_init : ByteArray := prog_1_method_1_code
def yX4_init : MethodName := ⟨RX4, "<init>", "()V"⟩
abbrev cX4_flight : ByteArray := prog_1_method_2_code
def yX4_flight : MethodName := ⟨RX4, "flight", "(II)I"⟩
abbrev cX4_entry : ByteArray := prog_1_method_3_code
def yX4_entry : MethodName := ⟨RX4, "entry", "(IIII)I"⟩
abbrev cX4_exempt : ByteArray := prog_1_method_4_code
def yX4_exempt : MethodName := ⟨RX4, "exempt", "(IZ)Z"⟩
abbrev cX4_flightIs : ByteArray := prog_1_method_5_code
def yX4_flightIs : MethodName := ⟨RX4, "flightIs", "(II)I"⟩
abbrev cX4_over : ByteArray := prog_1_method_6_code
def yX4_over : MethodName := ⟨RX4, "over", "(II)I"⟩
abbrev cX4_load : ByteArray := prog_1_method_7_code
def yX4_load : MethodName := ⟨RX4, "load", "(III)I"⟩
abbrev cX4_inside : ByteArray := prog_1_method_8_code
def yX4_inside : MethodName := ⟨RX4, "inside", "(II)I"⟩
abbrev cX4_peak : ByteArray := prog_1_method_9_code
def yX4_peak : MethodName := ⟨RX4, "peak", "(II)I"⟩
abbrev cX4_peakAnew : ByteArray := prog_1_method_10_code
def yX4_peakAnew : MethodName := ⟨RX4, "peakAnew", "(II)I"⟩
abbrev cX4_regulation : ByteArray := prog_1_method_11_code
def yX4_regulation : MethodName := ⟨RX4, "regulation", "(IIII)I"⟩
abbrev cX4_rate : ByteArray := prog_1_method_12_code
def yX4_rate : MethodName := ⟨RX4, "rate", "(II)I"⟩
abbrev cX4_end : ByteArray := prog_1_method_13_code
def yX4_end : MethodName := ⟨RX4, "end", "(I)V"⟩
abbrev cX4_regulationIs : ByteArray := prog_1_method_14_code
def yX4_regulationIs : MethodName := ⟨RX4, "regulationIs", "(II)I"⟩
abbrev cX4_slot : ByteArray := prog_1_method_15_code
def yX4_slot : MethodName := ⟨RX4, "slot", "(II)I"⟩
abbrev cX4_penalty : ByteArray := prog_1_method_16_code
def yX4_penalty : MethodName := ⟨RX4, "penalty", "(II)I"⟩
abbrev cX4_due : ByteArray := prog_1_method_17_code
def yX4_due : MethodName := ⟨RX4, "due", "(I)I"⟩
abbrev cX4_dueAnew : ByteArray := prog_1_method_18_code
def yX4_dueAnew : MethodName := ⟨RX4, "dueAnew", "(I)I"⟩
abbrev cX4_allDue : ByteArray := prog_1_method_19_code
def yX4_allDue : MethodName := ⟨RX4, "allDue", "()I"⟩
abbrev cX4_would : ByteArray := prog_1_method_20_code
def yX4_would : MethodName := ⟨RX4, "would", "(IIII)I"⟩
abbrev cX4_deal : ByteArray := prog_1_method_21_code
def yX4_deal : MethodName := ⟨RX4, "deal", "(Z)I"⟩
abbrev cX4_swap : ByteArray := prog_1_method_22_code
def yX4_swap : MethodName := ⟨RX4, "swap", "(II)V"⟩
abbrev cX4_message : ByteArray := prog_1_method_23_code
def yX4_message : MethodName := ⟨RX4, "message", "(IIII)Z"⟩
abbrev cX4_companyIs : ByteArray := prog_1_method_24_code
def yX4_companyIs : MethodName := ⟨RX4, "companyIs", "(II)I"⟩
abbrev cX4_flightAt : ByteArray := prog_1_method_25_code
def yX4_flightAt : MethodName := ⟨RX4, "flightAt", "(I)LSkyloadBureau$Flight;"⟩
abbrev cX4_regulationAt : ByteArray := prog_1_method_26_code
def yX4_regulationAt : MethodName := ⟨RX4, "regulationAt", "(I)LSkyloadBureau$Regulation;"⟩
abbrev cX4_checkSector : ByteArray := prog_1_method_27_code
def yX4_checkSector : MethodName := ⟨RX4, "checkSector", "(I)V"⟩
abbrev cX4_checkCompany : ByteArray := prog_1_method_28_code
def yX4_checkCompany : MethodName := ⟨RX4, "checkCompany", "(I)V"⟩
abbrev cX4_checkRange : ByteArray := prog_1_method_29_code
def yX4_checkRange : MethodName := ⟨RX4, "checkRange", "(III)V"⟩
abbrev cX4_checkTerm : ByteArray := prog_1_method_30_code
def yX4_checkTerm : MethodName := ⟨RX4, "checkTerm", "(III)V"⟩
abbrev cX4_checkNotEnded : ByteArray := prog_1_method_31_code
def yX4_checkNotEnded : MethodName := ⟨RX4, "checkNotEnded", "(LSkyloadBureau$Regulation;)V"⟩
abbrev cX4_loadOf : ByteArray := prog_1_method_32_code
def yX4_loadOf : MethodName := ⟨RX4, "loadOf", "(III)I"⟩
abbrev cX4_lineUpEntering : ByteArray := prog_1_method_33_code
def yX4_lineUpEntering : MethodName := ⟨RX4, "lineUpEntering", "(I)V"⟩
abbrev cX4_reckonDues : ByteArray := prog_1_method_34_code
def yX4_reckonDues : MethodName := ⟨RX4, "reckonDues", "()V"⟩
abbrev cX4_reckonPenalties : ByteArray := prog_1_method_35_code
def yX4_reckonPenalties : MethodName := ⟨RX4, "reckonPenalties", "(LSkyloadBureau$Regulation;I)V"⟩
abbrev cX4_sumOfDues : ByteArray := prog_1_method_36_code
def yX4_sumOfDues : MethodName := ⟨RX4, "sumOfDues", "()I"⟩
abbrev cX4_chargedToRegulation : ByteArray := prog_1_method_37_code
def yX4_chargedToRegulation : MethodName := ⟨RX4, "chargedToRegulation", "(I)I"⟩
def RX5 : String := "SkyloadBureauModel"
def TX5 : u_T := fun k => match k with
  | _ => ("", "", "", false)
def tyX5 : Nat → FieldType := fun k => match k with
  | _ => .int
abbrev wsX50 : List Cond := u_ws RX5 TX5 0
theorem nmX5 : ∀ a, a < 0 → ∀ b, b < 0 → a ≠ b → (TX5 a).2.1 ≠ (TX5 b).2.1 := by decide +kernel
theorem tyX5_ok : ∀ k, k < 0 → parseFieldDescriptor (TX5 k).2.2.1 = some (tyX5 k) := by decide +kernel
def RJx145de : String := "java/io/Serializable"
def TJx145de : u_T := fun k => match k with
  | _ => ("", "", "", false)
def tyJx145de : Nat → FieldType := fun k => match k with
  | _ => .int
abbrev wsJx145de0 : List Cond := u_ws RJx145de TJx145de 0
theorem nmJx145de : ∀ a, a < 0 → ∀ b, b < 0 → a ≠ b → (TJx145de a).2.1 ≠ (TJx145de b).2.1 := by decide +kernel
theorem tyJx145de_ok : ∀ k, k < 0 → parseFieldDescriptor (TJx145de k).2.2.1 = some (tyJx145de k) := by decide +kernel
def RJx8e188 : String := "java/lang/Cloneable"
def TJx8e188 : u_T := fun k => match k with
  | _ => ("", "", "", false)
def tyJx8e188 : Nat → FieldType := fun k => match k with
  | _ => .int
abbrev wsJx8e1880 : List Cond := u_ws RJx8e188 TJx8e188 0
theorem nmJx8e188 : ∀ a, a < 0 → ∀ b, b < 0 → a ≠ b → (TJx8e188 a).2.1 ≠ (TJx8e188 b).2.1 := by decide +kernel
theorem tyJx8e188_ok : ∀ k, k < 0 → parseFieldDescriptor (TJx8e188 k).2.2.1 = some (tyJx8e188 k) := by decide +kernel
def RJxab1ab : String := "java/lang/Iterable"
def TJxab1ab : u_T := fun k => match k with
  | _ => ("", "", "", false)
def tyJxab1ab : Nat → FieldType := fun k => match k with
  | _ => .int
abbrev wsJxab1ab0 : List Cond := u_ws RJxab1ab TJxab1ab 0
theorem nmJxab1ab : ∀ a, a < 0 → ∀ b, b < 0 → a ≠ b → (TJxab1ab a).2.1 ≠ (TJxab1ab b).2.1 := by decide +kernel
theorem tyJxab1ab_ok : ∀ k, k < 0 → parseFieldDescriptor (TJxab1ab k).2.2.1 = some (tyJxab1ab k) := by decide +kernel
def RJ9 : String := "java/lang/Math"
def TJ9 : u_T := fun k => match k with
  | _ => ("", "", "", false)
def tyJ9 : Nat → FieldType := fun k => match k with
  | _ => .int
abbrev wsJ90 : List Cond := u_ws RJ9 TJ9 0
theorem nmJ9 : ∀ a, a < 0 → ∀ b, b < 0 → a ≠ b → (TJ9 a).2.1 ≠ (TJ9 b).2.1 := by decide +kernel
theorem tyJ9_ok : ∀ k, k < 0 → parseFieldDescriptor (TJ9 k).2.2.1 = some (tyJ9 k) := by decide +kernel
abbrev cJ9_max_7cf53 : ByteArray := prog_15_method_65_code
def yJ9_max_7cf53 : MethodName := ⟨RJ9, "max", "(II)I"⟩
abbrev cJ9_min_7cf53 : ByteArray := prog_15_method_69_code
def yJ9_min_7cf53 : MethodName := ⟨RJ9, "min", "(II)I"⟩
def RJ0 : String := "java/lang/String"
def TJ0 : u_T := fun k => match k with
  | _ => ("", "", "", false)
def tyJ0 : Nat → FieldType := fun k => match k with
  | _ => .int
abbrev wsJ00 : List Cond := u_ws RJ0 TJ0 0
theorem nmJ0 : ∀ a, a < 0 → ∀ b, b < 0 → a ≠ b → (TJ0 a).2.1 ≠ (TJ0 b).2.1 := by decide +kernel
theorem tyJ0_ok : ∀ k, k < 0 → parseFieldDescriptor (TJ0 k).2.2.1 = some (tyJ0 k) := by decide +kernel
def RJ10 : String := "java/lang/System"
def TJ10 : u_T := fun k => match k with
  | _ => ("", "", "", false)
def tyJ10 : Nat → FieldType := fun k => match k with
  | _ => .int
abbrev wsJ100 : List Cond := u_ws RJ10 TJ10 0
theorem nmJ10 : ∀ a, a < 0 → ∀ b, b < 0 → a ≠ b → (TJ10 a).2.1 ≠ (TJ10 b).2.1 := by decide +kernel
theorem tyJ10_ok : ∀ k, k < 0 → parseFieldDescriptor (TJ10 k).2.2.1 = some (tyJ10 k) := by decide +kernel
def RJxa1e45 : String := "java/util/AbstractCollection"
def TJxa1e45 : u_T := fun k => match k with
  | _ => ("", "", "", false)
def tyJxa1e45 : Nat → FieldType := fun k => match k with
  | _ => .int
abbrev wsJxa1e450 : List Cond := u_ws RJxa1e45 TJxa1e45 0
theorem nmJxa1e45 : ∀ a, a < 0 → ∀ b, b < 0 → a ≠ b → (TJxa1e45 a).2.1 ≠ (TJxa1e45 b).2.1 := by decide +kernel
theorem tyJxa1e45_ok : ∀ k, k < 0 → parseFieldDescriptor (TJxa1e45 k).2.2.1 = some (tyJxa1e45 k) := by decide +kernel
abbrev cJxa1e45_init_da8c8 : ByteArray := prog_20_method_1_code
def yJxa1e45_init_da8c8 : MethodName := ⟨RJxa1e45, "<init>", "()V"⟩
def RJxc12de : String := "java/util/AbstractList"
def TJxc12de : u_T := fun k => match k with
  | _ => ("", "", "", false)
def tyJxc12de : Nat → FieldType := fun k => match k with
  | _ => .int
abbrev wsJxc12de0 : List Cond := u_ws RJxc12de TJxc12de 0
theorem nmJxc12de : ∀ a, a < 0 → ∀ b, b < 0 → a ≠ b → (TJxc12de a).2.1 ≠ (TJxc12de b).2.1 := by decide +kernel
theorem tyJxc12de_ok : ∀ k, k < 0 → parseFieldDescriptor (TJxc12de k).2.2.1 = some (tyJxc12de k) := by decide +kernel
abbrev cJxc12de_init_da8c8 : ByteArray := prog_21_method_1_code
def yJxc12de_init_da8c8 : MethodName := ⟨RJxc12de, "<init>", "()V"⟩
def RJx4a65c : String := "java/util/ArrayList"
def TJx4a65c : u_T := fun k => match k with
  | 0 => ("java/util/AbstractList", "modCount", "I", false)
  | 1 => ("java/util/ArrayList", "elementData", "[Ljava/lang/Object;", false)
  | _ => ("java/util/ArrayList", "size", "I", false)
def tyJx4a65c : Nat → FieldType := fun k => match k with
  | 0 => .int
  | 1 => .array (.object "java/lang/Object")
  | _ => .int
abbrev wsJx4a65c0 : List Cond := u_ws RJx4a65c TJx4a65c 3
theorem nmJx4a65c : ∀ a, a < 3 → ∀ b, b < 3 → a ≠ b → (TJx4a65c a).2.1 ≠ (TJx4a65c b).2.1 := by decide +kernel
theorem tyJx4a65c_ok : ∀ k, k < 3 → parseFieldDescriptor (TJx4a65c k).2.2.1 = some (tyJx4a65c k) := by decide +kernel
abbrev cJx4a65c_init_da8c8 : ByteArray := prog_22_method_2_code
def yJx4a65c_init_da8c8 : MethodName := ⟨RJx4a65c, "<init>", "()V"⟩
abbrev cJx4a65c_grow_92f84 : ByteArray := prog_22_method_6_code
def yJx4a65c_grow_92f84 : MethodName := ⟨RJx4a65c, "grow", "(I)[Ljava/lang/Object;"⟩
abbrev cJx4a65c_grow_d5877 : ByteArray := prog_22_method_7_code
def yJx4a65c_grow_d5877 : MethodName := ⟨RJx4a65c, "grow", "()[Ljava/lang/Object;"⟩
abbrev cJx4a65c_size_8abf5 : ByteArray := prog_22_method_8_code
def yJx4a65c_size_8abf5 : MethodName := ⟨RJx4a65c, "size", "()I"⟩
abbrev cJx4a65c_elementData_915e3 : ByteArray := prog_22_method_18_code
def yJx4a65c_elementData_915e3 : MethodName := ⟨RJx4a65c, "elementData", "(I)Ljava/lang/Object;"⟩
abbrev cJx4a65c_get_915e3 : ByteArray := prog_22_method_20_code
def yJx4a65c_get_915e3 : MethodName := ⟨RJx4a65c, "get", "(I)Ljava/lang/Object;"⟩
abbrev cJx4a65c_add_72be8 : ByteArray := prog_22_method_24_code
def yJx4a65c_add_72be8 : MethodName := ⟨RJx4a65c, "add", "(Ljava/lang/Object;[Ljava/lang/Object;I)V"⟩
abbrev cJx4a65c_add_9ea2d : ByteArray := prog_22_method_25_code
def yJx4a65c_add_9ea2d : MethodName := ⟨RJx4a65c, "add", "(Ljava/lang/Object;)Z"⟩
def RJ7 : String := "java/util/Arrays"
def TJ7 : u_T := fun k => match k with
  | _ => ("", "", "", false)
def tyJ7 : Nat → FieldType := fun k => match k with
  | _ => .int
abbrev wsJ70 : List Cond := u_ws RJ7 TJ7 0
theorem nmJ7 : ∀ a, a < 0 → ∀ b, b < 0 → a ≠ b → (TJ7 a).2.1 ≠ (TJ7 b).2.1 := by decide +kernel
theorem tyJ7_ok : ∀ k, k < 0 → parseFieldDescriptor (TJ7 k).2.2.1 = some (tyJ7 k) := by decide +kernel
abbrev cJ7_copyOf_1904c : ByteArray := prog_23_method_119_code
def yJ7_copyOf_1904c : MethodName := ⟨RJ7, "copyOf", "([Ljava/lang/Object;I)[Ljava/lang/Object;"⟩
abbrev cJ7_copyOf_6403c : ByteArray := prog_23_method_120_code
def yJ7_copyOf_6403c : MethodName := ⟨RJ7, "copyOf", "([Ljava/lang/Object;ILjava/lang/Class;)[Ljava/lang/Object;"⟩
def RJx5ef63 : String := "java/util/Collection"
def TJx5ef63 : u_T := fun k => match k with
  | _ => ("", "", "", false)
def tyJx5ef63 : Nat → FieldType := fun k => match k with
  | _ => .int
abbrev wsJx5ef630 : List Cond := u_ws RJx5ef63 TJx5ef63 0
theorem nmJx5ef63 : ∀ a, a < 0 → ∀ b, b < 0 → a ≠ b → (TJx5ef63 a).2.1 ≠ (TJx5ef63 b).2.1 := by decide +kernel
theorem tyJx5ef63_ok : ∀ k, k < 0 → parseFieldDescriptor (TJx5ef63 k).2.2.1 = some (tyJx5ef63 k) := by decide +kernel
def RJxbd725 : String := "java/util/List"
def TJxbd725 : u_T := fun k => match k with
  | _ => ("", "", "", false)
def tyJxbd725 : Nat → FieldType := fun k => match k with
  | _ => .int
abbrev wsJxbd7250 : List Cond := u_ws RJxbd725 TJxbd725 0
theorem nmJxbd725 : ∀ a, a < 0 → ∀ b, b < 0 → a ≠ b → (TJxbd725 a).2.1 ≠ (TJxbd725 b).2.1 := by decide +kernel
theorem tyJxbd725_ok : ∀ k, k < 0 → parseFieldDescriptor (TJxbd725 k).2.2.1 = some (tyJxbd725 k) := by decide +kernel
def RJ15 : String := "java/util/Objects"
def TJ15 : u_T := fun k => match k with
  | _ => ("", "", "", false)
def tyJ15 : Nat → FieldType := fun k => match k with
  | _ => .int
abbrev wsJ150 : List Cond := u_ws RJ15 TJ15 0
theorem nmJ15 : ∀ a, a < 0 → ∀ b, b < 0 → a ≠ b → (TJ15 a).2.1 ≠ (TJ15 b).2.1 := by decide +kernel
theorem tyJ15_ok : ∀ k, k < 0 → parseFieldDescriptor (TJ15 k).2.2.1 = some (tyJ15 k) := by decide +kernel
abbrev cJ15_checkIndex_7cf53 : ByteArray := prog_26_method_17_code
def yJ15_checkIndex_7cf53 : MethodName := ⟨RJ15, "checkIndex", "(II)I"⟩
def RJxf0a74 : String := "java/util/RandomAccess"
def TJxf0a74 : u_T := fun k => match k with
  | _ => ("", "", "", false)
def tyJxf0a74 : Nat → FieldType := fun k => match k with
  | _ => .int
abbrev wsJxf0a740 : List Cond := u_ws RJxf0a74 TJxf0a74 0
theorem nmJxf0a74 : ∀ a, a < 0 → ∀ b, b < 0 → a ≠ b → (TJxf0a74 a).2.1 ≠ (TJxf0a74 b).2.1 := by decide +kernel
theorem tyJxf0a74_ok : ∀ k, k < 0 → parseFieldDescriptor (TJxf0a74 k).2.2.1 = some (tyJxf0a74 k) := by decide +kernel
def RJxa66e6 : String := "java/util/SequencedCollection"
def TJxa66e6 : u_T := fun k => match k with
  | _ => ("", "", "", false)
def tyJxa66e6 : Nat → FieldType := fun k => match k with
  | _ => .int
abbrev wsJxa66e60 : List Cond := u_ws RJxa66e6 TJxa66e6 0
theorem nmJxa66e6 : ∀ a, a < 0 → ∀ b, b < 0 → a ≠ b → (TJxa66e6 a).2.1 ≠ (TJxa66e6 b).2.1 := by decide +kernel
theorem tyJxa66e6_ok : ∀ k, k < 0 → parseFieldDescriptor (TJxa66e6 k).2.2.1 = some (tyJxa66e6 k) := by decide +kernel
def RJ8 : String := "jdk/internal/util/ArraysSupport"
def TJ8 : u_T := fun k => match k with
  | _ => ("", "", "", false)
def tyJ8 : Nat → FieldType := fun k => match k with
  | _ => .int
abbrev wsJ80 : List Cond := u_ws RJ8 TJ8 0
theorem nmJ8 : ∀ a, a < 0 → ∀ b, b < 0 → a ≠ b → (TJ8 a).2.1 ≠ (TJ8 b).2.1 := by decide +kernel
theorem tyJ8_ok : ∀ k, k < 0 → parseFieldDescriptor (TJ8 k).2.2.1 = some (tyJ8 k) := by decide +kernel
abbrev cJ8_newLength_cabcc : ByteArray := prog_29_method_27_code
def yJ8_newLength_cabcc : MethodName := ⟨RJ8, "newLength", "(III)I"⟩
abbrev cJ8_hugeLength_7cf53 : ByteArray := prog_29_method_28_code
def yJ8_hugeLength_7cf53 : MethodName := ⟨RJ8, "hugeLength", "(II)I"⟩
def RJ3 : String := "jdk/internal/util/Preconditions"
def TJ3 : u_T := fun k => match k with
  | _ => ("", "", "", false)
def tyJ3 : Nat → FieldType := fun k => match k with
  | _ => .int
abbrev wsJ30 : List Cond := u_ws RJ3 TJ3 0
theorem nmJ3 : ∀ a, a < 0 → ∀ b, b < 0 → a ≠ b → (TJ3 a).2.1 ≠ (TJ3 b).2.1 := by decide +kernel
theorem tyJ3_ok : ∀ k, k < 0 → parseFieldDescriptor (TJ3 k).2.2.1 = some (tyJ3 k) := by decide +kernel
abbrev cJ3_checkIndex_8e157 : ByteArray := prog_30_method_11_code
def yJ3_checkIndex_8e157 : MethodName := ⟨RJ3, "checkIndex", "(IILjava/util/function/BiFunction;)I"⟩
def RL : String := "SkyloadBureauLaw"
abbrev cL_draw : ByteArray := method_2_code
def yL_draw : MethodName := ⟨RL, "draw", "([II)I"⟩
abbrev cL_swaps : ByteArray := method_3_code
def yL_swaps : MethodName := ⟨RL, "swaps", "(LSkyloadBureau;II)Z"⟩
abbrev cL_acts : ByteArray := method_4_code
def yL_acts : MethodName := ⟨RL, "acts", "(LSkyloadBureau;IIIII)I"⟩
abbrev cL_ends : ByteArray := method_5_code
def yL_ends : MethodName := ⟨RL, "ends", "(LSkyloadBureau;I)Z"⟩
abbrev cL_exempts : ByteArray := method_6_code
def yL_exempts : MethodName := ⟨RL, "exempts", "(LSkyloadBureau;IZ)I"⟩
abbrev cL_step : ByteArray := method_7_code
def yL_step : MethodName := ⟨RL, "step", "(LSkyloadBureau;[IIII)Z"⟩
abbrev cL_areSlots : ByteArray := method_8_code
def yL_areSlots : MethodName := ⟨RL, "areSlots", "(LSkyloadBureau;I)Z"⟩
abbrev cL_isDealt : ByteArray := method_9_code
def yL_isDealt : MethodName := ⟨RL, "isDealt", "(LSkyloadBureau;[IZI)Z"⟩
abbrev cL_isSwapped : ByteArray := method_10_code
def yL_isSwapped : MethodName := ⟨RL, "isSwapped", "(LSkyloadBureau;[III)Z"⟩
abbrev cL_isTold : ByteArray := method_11_code
def yL_isTold : MethodName := ⟨RL, "isTold", "(LSkyloadBureau;II)Z"⟩
abbrev cL_isDay : ByteArray := method_12_code
def yL_isDay : MethodName := ⟨RL, "isDay", "(LSkyloadBureau;[II)Z"⟩
abbrev cL_law : ByteArray := code
def yL_law : MethodName := ⟨RL, "law", "([I)Z"⟩
abbrev vwCl : List vw_C := [(RJx4a65c, TJx4a65c, 3), (RX0, TX0, 5), (RX1, TX1, 14), (RX2, TX2, 5), (RX3, TX3, 5), (RX4, TX4, 4)]
def lw_G : List Cond := lw_tbl.filter goodWord
