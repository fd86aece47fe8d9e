/-! ===== BEGIN printed: names, fields, word lists, decode rows ===== -/
def RX0 : String := "Cablecourt$Cable"
def TX0 : u_T := fun k => match k with
  | 0 => ("Cablecourt$Cable", "landing", "I", true)
  | 1 => ("Cablecourt$Cable", "other", "I", true)
  | 2 => ("Cablecourt$Cable", "strands", "I", true)
  | 3 => ("Cablecourt$Cable", "member", "I", true)
  | 4 => ("Cablecourt$Cable", "laid", "I", true)
  | 5 => ("Cablecourt$Cable", "length", "I", true)
  | _ => ("Cablecourt$Cable", "lowPlace", "I", true)
def tyX0 : Nat → FieldType := fun k => match k with
  | 0 => .int
  | 1 => .int
  | 2 => .int
  | 3 => .int
  | 4 => .int
  | 5 => .int
  | _ => .int
abbrev wsX00 : List Cond := u_ws RX0 TX0 7
theorem nmX0 : ∀ a, a < 7 → ∀ b, b < 7 → a ≠ b → (TX0 a).2.1 ≠ (TX0 b).2.1 := by decide +kernel
theorem tyX0_ok : ∀ k, k < 7 → parseFieldDescriptor (TX0 k).2.2.1 = some (tyX0 k) := by decide +kernel
abbrev cX0_init : ByteArray := prog_2_method_1_code
def yX0_init : MethodName := ⟨RX0, "<init>", "(IIIII)V"⟩
abbrev cX0_across : ByteArray := prog_2_method_2_code
def yX0_across : MethodName := ⟨RX0, "across", "(I)I"⟩
def RX1 : String := "Cablecourt$Cut"
def TX1 : u_T := fun k => match k with
  | 0 => ("Cablecourt$Cut", "cable", "I", true)
  | 1 => ("Cablecourt$Cut", "spot", "I", true)
  | 2 => ("Cablecourt$Cut", "told", "I", true)
  | 3 => ("Cablecourt$Cut", "hoursWorked", "I", false)
  | _ => ("Cablecourt$Cut", "wholeFrom", "I", false)
def tyX1 : Nat → FieldType := fun k => match k with
  | 0 => .int
  | 1 => .int
  | 2 => .int
  | 3 => .int
  | _ => .int
abbrev wsX10 : List Cond := u_ws RX1 TX1 5
theorem nmX1 : ∀ a, a < 5 → ∀ b, b < 5 → a ≠ b → (TX1 a).2.1 ≠ (TX1 b).2.1 := by decide +kernel
theorem tyX1_ok : ∀ k, k < 5 → parseFieldDescriptor (TX1 k).2.2.1 = some (tyX1 k) := by decide +kernel
abbrev cX1_init : ByteArray := prog_3_method_1_code
def yX1_init : MethodName := ⟨RX1, "<init>", "(III)V"⟩
def RX2 : String := "Cablecourt$Demand"
def TX2 : u_T := fun k => match k with
  | 0 => ("Cablecourt$Demand", "member", "I", true)
  | 1 => ("Cablecourt$Demand", "landing", "I", true)
  | 2 => ("Cablecourt$Demand", "other", "I", true)
  | 3 => ("Cablecourt$Demand", "strands", "I", true)
  | _ => ("Cablecourt$Demand", "told", "I", true)
def tyX2 : Nat → FieldType := fun k => match k with
  | 0 => .int
  | 1 => .int
  | 2 => .int
  | 3 => .int
  | _ => .int
abbrev wsX20 : List Cond := u_ws RX2 TX2 5
theorem nmX2 : ∀ a, a < 5 → ∀ b, b < 5 → a ≠ b → (TX2 a).2.1 ≠ (TX2 b).2.1 := by decide +kernel
theorem tyX2_ok : ∀ k, k < 5 → parseFieldDescriptor (TX2 k).2.2.1 = some (tyX2 k) := by decide +kernel
abbrev cX2_init : ByteArray := prog_4_method_1_code
def yX2_init : MethodName := ⟨RX2, "<init>", "(IIIII)V"⟩
def RX3 : String := "Cablecourt$Net"
def TX3 : u_T := fun k => match k with
  | 0 => ("Cablecourt$Net", "cables", "[LCablecourt$Cable;", true)
  | 1 => ("Cablecourt$Net", "whole", "[Z", true)
  | 2 => ("Cablecourt$Net", "owned", "[[I", true)
  | 3 => ("Cablecourt$Net", "demands", "[LCablecourt$Demand;", true)
  | 4 => ("Cablecourt$Net", "ways", "[I", true)
  | 5 => ("Cablecourt$Net", "lents", "[I", true)
  | 6 => ("Cablecourt$Net", "loans", "[[I", true)
  | 7 => ("Cablecourt$Net", "cableCount", "I", false)
  | 8 => ("Cablecourt$Net", "demandCount", "I", false)
  | 9 => ("Cablecourt$Net", "free", "[[I", true)
  | 10 => ("Cablecourt$Net", "foreign", "[I", true)
  | 11 => ("Cablecourt$Net", "goal", "I", false)
  | 12 => ("Cablecourt$Net", "bestWay", "I", false)
  | 13 => ("Cablecourt$Net", "bestLent", "I", false)
  | 14 => ("Cablecourt$Net", "bestLength", "I", false)
  | _ => ("Cablecourt$Net", "stale", "Z", false)
def tyX3 : Nat → FieldType := fun k => match k with
  | 0 => .array (.object "Cablecourt$Cable")
  | 1 => .array .boolean
  | 2 => .array (.array .int)
  | 3 => .array (.object "Cablecourt$Demand")
  | 4 => .array .int
  | 5 => .array .int
  | 6 => .array (.array .int)
  | 7 => .int
  | 8 => .int
  | 9 => .array (.array .int)
  | 10 => .array .int
  | 11 => .int
  | 12 => .int
  | 13 => .int
  | 14 => .int
  | _ => .boolean
abbrev wsX30 : List Cond := u_ws RX3 TX3 16
theorem nmX3 : ∀ a, a < 16 → ∀ b, b < 16 → a ≠ b → (TX3 a).2.1 ≠ (TX3 b).2.1 := by decide +kernel
theorem tyX3_ok : ∀ k, k < 16 → parseFieldDescriptor (TX3 k).2.2.1 = some (tyX3 k) := by decide +kernel
abbrev cX3_init : ByteArray := prog_5_method_1_code
def yX3_init : MethodName := ⟨RX3, "<init>", "()V"⟩
abbrev cX3_clear : ByteArray := prog_5_method_2_code
def yX3_clear : MethodName := ⟨RX3, "clear", "()V"⟩
abbrev cX3_lay : ByteArray := prog_5_method_3_code
def yX3_lay : MethodName := ⟨RX3, "lay", "(LCablecourt$Cable;)V"⟩
abbrev cX3_tell : ByteArray := prog_5_method_4_code
def yX3_tell : MethodName := ⟨RX3, "tell", "(LCablecourt$Demand;)V"⟩
abbrev cX3_hand : ByteArray := prog_5_method_5_code
def yX3_hand : MethodName := ⟨RX3, "hand", "(LCablecourt$Sale;)V"⟩
abbrev cX3_sever : ByteArray := prog_5_method_6_code
def yX3_sever : MethodName := ⟨RX3, "sever", "(I)V"⟩
abbrev cX3_mend : ByteArray := prog_5_method_7_code
def yX3_mend : MethodName := ⟨RX3, "mend", "(I)V"⟩
abbrev cX3_lead : ByteArray := prog_5_method_8_code
def yX3_lead : MethodName := ⟨RX3, "lead", "()V"⟩
abbrev cX3_freeAll : ByteArray := prog_5_method_9_code
def yX3_freeAll : MethodName := ⟨RX3, "freeAll", "()V"⟩
abbrev cX3_leadOne : ByteArray := prog_5_method_10_code
def yX3_leadOne : MethodName := ⟨RX3, "leadOne", "(II)V"⟩
abbrev cX3_foreignOn : ByteArray := prog_5_method_11_code
def yX3_foreignOn : MethodName := ⟨RX3, "foreignOn", "(ILCablecourt$Demand;)I"⟩
abbrev cX3_follow : ByteArray := prog_5_method_12_code
def yX3_follow : MethodName := ⟨RX3, "follow", "(LCablecourt$Net;IIIIII)V"⟩
abbrev cX3_isBetter : ByteArray := prog_5_method_13_code
def yX3_isBetter : MethodName := ⟨RX3, "isBetter", "(II)Z"⟩
abbrev cX3_take : ByteArray := prog_5_method_14_code
def yX3_take : MethodName := ⟨RX3, "take", "(I)V"⟩
abbrev cX3_takeFrom : ByteArray := prog_5_method_15_code
def yX3_takeFrom : MethodName := ⟨RX3, "takeFrom", "(III)I"⟩
def RX4 : String := "Cablecourt$Sale"
def TX4 : u_T := fun k => match k with
  | 0 => ("Cablecourt$Sale", "cable", "I", true)
  | 1 => ("Cablecourt$Sale", "member", "I", true)
  | 2 => ("Cablecourt$Sale", "other", "I", true)
  | 3 => ("Cablecourt$Sale", "strands", "I", true)
  | _ => ("Cablecourt$Sale", "told", "I", true)
def tyX4 : Nat → FieldType := fun k => match k with
  | 0 => .int
  | 1 => .int
  | 2 => .int
  | 3 => .int
  | _ => .int
abbrev wsX40 : List Cond := u_ws RX4 TX4 5
theorem nmX4 : ∀ a, a < 5 → ∀ b, b < 5 → a ≠ b → (TX4 a).2.1 ≠ (TX4 b).2.1 := by decide +kernel
theorem tyX4_ok : ∀ k, k < 5 → parseFieldDescriptor (TX4 k).2.2.1 = some (tyX4 k) := by decide +kernel
abbrev cX4_init : ByteArray := prog_6_method_1_code
def yX4_init : MethodName := ⟨RX4, "<init>", "(IIIII)V"⟩
def RX5 : String := "Cablecourt$Ship"
def TX5 : u_T := fun k => match k with
  | 0 => ("Cablecourt$Ship", "speed", "I", true)
  | 1 => ("Cablecourt$Ship", "place", "I", false)
  | 2 => ("Cablecourt$Ship", "store", "I", false)
  | _ => ("Cablecourt$Ship", "cut", "I", false)
def tyX5 : Nat → FieldType := fun k => match k with
  | 0 => .int
  | 1 => .int
  | 2 => .int
  | _ => .int
abbrev wsX50 : List Cond := u_ws RX5 TX5 4
theorem nmX5 : ∀ a, a < 4 → ∀ b, b < 4 → a ≠ b → (TX5 a).2.1 ≠ (TX5 b).2.1 := by decide +kernel
theorem tyX5_ok : ∀ k, k < 4 → parseFieldDescriptor (TX5 k).2.2.1 = some (tyX5 k) := by decide +kernel
abbrev cX5_init : ByteArray := prog_7_method_1_code
def yX5_init : MethodName := ⟨RX5, "<init>", "(III)V"⟩
abbrev cX5_sailTo : ByteArray := prog_7_method_2_code
def yX5_sailTo : MethodName := ⟨RX5, "sailTo", "(I)V"⟩
def RX6 : String := "Cablecourt"
def TX6 : u_T := fun k => match k with
  | 0 => ("Cablecourt", "live", "LCablecourt$Net;", true)
  | 1 => ("Cablecourt", "anew", "LCablecourt$Net;", true)
  | 2 => ("Cablecourt", "cuts", "[LCablecourt$Cut;", true)
  | 3 => ("Cablecourt", "ships", "[LCablecourt$Ship;", true)
  | 4 => ("Cablecourt", "sales", "Ljava/util/ArrayList;", true)
  | 5 => ("Cablecourt", "owed", "[[I", true)
  | 6 => ("Cablecourt", "got", "[[I", true)
  | 7 => ("Cablecourt", "accounts", "[I", true)
  | 8 => ("Cablecourt", "clubAccount", "I", false)
  | 9 => ("Cablecourt", "paidForShips", "I", false)
  | 10 => ("Cablecourt", "cutCount", "I", false)
  | 11 => ("Cablecourt", "shipCount", "I", false)
  | 12 => ("Cablecourt", "hour", "I", false)
  | 13 => ("Cablecourt", "stormFrom", "I", false)
  | _ => ("Cablecourt", "stormTo", "I", false)
def tyX6 : Nat → FieldType := fun k => match k with
  | 0 => .object "Cablecourt$Net"
  | 1 => .object "Cablecourt$Net"
  | 2 => .array (.object "Cablecourt$Cut")
  | 3 => .array (.object "Cablecourt$Ship")
  | 4 => .object "java/util/ArrayList"
  | 5 => .array (.array .int)
  | 6 => .array (.array .int)
  | 7 => .array .int
  | 8 => .int
  | 9 => .int
  | 10 => .int
  | 11 => .int
  | 12 => .int
  | 13 => .int
  | _ => .int
abbrev wsX60 : List Cond := u_ws RX6 TX6 15
theorem nmX6 : ∀ a, a < 15 → ∀ b, b < 15 → a ≠ b → (TX6 a).2.1 ≠ (TX6 b).2.1 := by decide +kernel
theorem tyX6_ok : ∀ k, k < 15 → parseFieldDescriptor (TX6 k).2.2.1 = some (tyX6 k) := by decide +kernel
abbrev cX6_init : ByteArray := prog_1_method_1_code
def yX6_init : MethodName := ⟨RX6, "<init>", "()V"⟩
abbrev cX6_cable : ByteArray := prog_1_method_2_code
def yX6_cable : MethodName := ⟨RX6, "cable", "(IIII)I"⟩
abbrev cX6_demand : ByteArray := prog_1_method_3_code
def yX6_demand : MethodName := ⟨RX6, "demand", "(IIII)I"⟩
abbrev cX6_sell : ByteArray := prog_1_method_4_code
def yX6_sell : MethodName := ⟨RX6, "sell", "(IIIII)I"⟩
abbrev cX6_cut : ByteArray := prog_1_method_5_code
def yX6_cut : MethodName := ⟨RX6, "cut", "(II)I"⟩
abbrev cX6_ship : ByteArray := prog_1_method_6_code
def yX6_ship : MethodName := ⟨RX6, "ship", "(III)I"⟩
abbrev cX6_send : ByteArray := prog_1_method_7_code
def yX6_send : MethodName := ⟨RX6, "send", "(II)I"⟩
abbrev cX6_fill : ByteArray := prog_1_method_8_code
def yX6_fill : MethodName := ⟨RX6, "fill", "(II)I"⟩
abbrev cX6_storm : ByteArray := prog_1_method_9_code
def yX6_storm : MethodName := ⟨RX6, "storm", "(II)V"⟩
abbrev cX6_pass : ByteArray := prog_1_method_10_code
def yX6_pass : MethodName := ⟨RX6, "pass", "(I)I"⟩
abbrev cX6_owned : ByteArray := prog_1_method_11_code
def yX6_owned : MethodName := ⟨RX6, "owned", "(II)I"⟩
abbrev cX6_isWhole : ByteArray := prog_1_method_12_code
def yX6_isWhole : MethodName := ⟨RX6, "isWhole", "(I)Z"⟩
abbrev cX6_way : ByteArray := prog_1_method_13_code
def yX6_way : MethodName := ⟨RX6, "way", "(I)I"⟩
abbrev cX6_lent : ByteArray := prog_1_method_14_code
def yX6_lent : MethodName := ⟨RX6, "lent", "(I)I"⟩
abbrev cX6_owes : ByteArray := prog_1_method_15_code
def yX6_owes : MethodName := ⟨RX6, "owes", "(II)I"⟩
abbrev cX6_owesAnew : ByteArray := prog_1_method_16_code
def yX6_owesAnew : MethodName := ⟨RX6, "owesAnew", "(II)I"⟩
abbrev cX6_account : ByteArray := prog_1_method_17_code
def yX6_account : MethodName := ⟨RX6, "account", "(I)I"⟩
abbrev cX6_spent : ByteArray := prog_1_method_18_code
def yX6_spent : MethodName := ⟨RX6, "spent", "()I"⟩
abbrev cX6_sold : ByteArray := prog_1_method_19_code
def yX6_sold : MethodName := ⟨RX6, "sold", "(II)I"⟩
abbrev cX6_place : ByteArray := prog_1_method_20_code
def yX6_place : MethodName := ⟨RX6, "place", "(I)I"⟩
abbrev cX6_worked : ByteArray := prog_1_method_21_code
def yX6_worked : MethodName := ⟨RX6, "worked", "(I)I"⟩
abbrev cX6_seal : ByteArray := prog_1_method_22_code
def yX6_seal : MethodName := ⟨RX6, "seal", "()I"⟩
abbrev cX6_passHour : ByteArray := prog_1_method_23_code
def yX6_passHour : MethodName := ⟨RX6, "passHour", "()V"⟩
abbrev cX6_addLoans : ByteArray := prog_1_method_24_code
def yX6_addLoans : MethodName := ⟨RX6, "addLoans", "()V"⟩
abbrev cX6_payCredits : ByteArray := prog_1_method_25_code
def yX6_payCredits : MethodName := ⟨RX6, "payCredits", "()V"⟩
abbrev cX6_cableCutFirst : ByteArray := prog_1_method_26_code
def yX6_cableCutFirst : MethodName := ⟨RX6, "cableCutFirst", "()I"⟩
abbrev cX6_chargeOwners : ByteArray := prog_1_method_27_code
def yX6_chargeOwners : MethodName := ⟨RX6, "chargeOwners", "(II)V"⟩
abbrev cX6_runShip : ByteArray := prog_1_method_28_code
def yX6_runShip : MethodName := ⟨RX6, "runShip", "(LCablecourt$Ship;)V"⟩
abbrev cX6_work : ByteArray := prog_1_method_29_code
def yX6_work : MethodName := ⟨RX6, "work", "(LCablecourt$Ship;LCablecourt$Cut;)V"⟩
abbrev cX6_isStorm : ByteArray := prog_1_method_30_code
def yX6_isStorm : MethodName := ⟨RX6, "isStorm", "()Z"⟩
abbrev cX6_retellNet : ByteArray := prog_1_method_31_code
def yX6_retellNet : MethodName := ⟨RX6, "retellNet", "(I)V"⟩
abbrev cX6_retellSales : ByteArray := prog_1_method_32_code
def yX6_retellSales : MethodName := ⟨RX6, "retellSales", "(II)I"⟩
abbrev cX6_checkLanding : ByteArray := prog_1_method_33_code
def yX6_checkLanding : MethodName := ⟨RX6, "checkLanding", "(I)V"⟩
abbrev cX6_checkMember : ByteArray := prog_1_method_34_code
def yX6_checkMember : MethodName := ⟨RX6, "checkMember", "(I)V"⟩
abbrev cX6_checkNumber : ByteArray := prog_1_method_35_code
def yX6_checkNumber : MethodName := ⟨RX6, "checkNumber", "(II)V"⟩
abbrev cX6_checkUnlike : ByteArray := prog_1_method_36_code
def yX6_checkUnlike : MethodName := ⟨RX6, "checkUnlike", "(II)V"⟩
abbrev cX6_checkRange : ByteArray := prog_1_method_37_code
def yX6_checkRange : MethodName := ⟨RX6, "checkRange", "(III)V"⟩
abbrev cX6_checkRoom : ByteArray := prog_1_method_38_code
def yX6_checkRoom : MethodName := ⟨RX6, "checkRoom", "(II)V"⟩
abbrev cX6_checkOpenForShip : ByteArray := prog_1_method_39_code
def yX6_checkOpenForShip : MethodName := ⟨RX6, "checkOpenForShip", "(I)V"⟩
def RX7 : String := "CablecourtModel"
def TX7 : u_T := fun k => match k with
  | _ => ("", "", "", false)
def tyX7 : Nat → FieldType := fun k => match k with
  | _ => .int
abbrev wsX70 : List Cond := u_ws RX7 TX7 0
theorem nmX7 : ∀ a, a < 0 → ∀ b, b < 0 → a ≠ b → (TX7 a).2.1 ≠ (TX7 b).2.1 := by decide +kernel
theorem tyX7_ok : ∀ k, k < 0 → parseFieldDescriptor (TX7 k).2.2.1 = some (tyX7 k) := by decide +kernel
def RJx145de : String := "java/io/Serializable"
def TJx145de : u_T := fun k => match k with
  | _ => ("", "", "", false)
def tyJx145de : Nat → FieldType := fun k => match k with
  | _ => .int
abbrev wsJx145de0 : List Cond := u_ws RJx145de TJx145de 0
theorem nmJx145de : ∀ a, a < 0 → ∀ b, b < 0 → a ≠ b → (TJx145de a).2.1 ≠ (TJx145de b).2.1 := by decide +kernel
theorem tyJx145de_ok : ∀ k, k < 0 → parseFieldDescriptor (TJx145de k).2.2.1 = some (tyJx145de k) := by decide +kernel
def RJx8e188 : String := "java/lang/Cloneable"
def TJx8e188 : u_T := fun k => match k with
  | _ => ("", "", "", false)
def tyJx8e188 : Nat → FieldType := fun k => match k with
  | _ => .int
abbrev wsJx8e1880 : List Cond := u_ws RJx8e188 TJx8e188 0
theorem nmJx8e188 : ∀ a, a < 0 → ∀ b, b < 0 → a ≠ b → (TJx8e188 a).2.1 ≠ (TJx8e188 b).2.1 := by decide +kernel
theorem tyJx8e188_ok : ∀ k, k < 0 → parseFieldDescriptor (TJx8e188 k).2.2.1 = some (tyJx8e188 k) := by decide +kernel
def RJxab1ab : String := "java/lang/Iterable"
def TJxab1ab : u_T := fun k => match k with
  | _ => ("", "", "", false)
def tyJxab1ab : Nat → FieldType := fun k => match k with
  | _ => .int
abbrev wsJxab1ab0 : List Cond := u_ws RJxab1ab TJxab1ab 0
theorem nmJxab1ab : ∀ a, a < 0 → ∀ b, b < 0 → a ≠ b → (TJxab1ab a).2.1 ≠ (TJxab1ab b).2.1 := by decide +kernel
theorem tyJxab1ab_ok : ∀ k, k < 0 → parseFieldDescriptor (TJxab1ab k).2.2.1 = some (tyJxab1ab k) := by decide +kernel
def RJ9 : String := "java/lang/Math"
def TJ9 : u_T := fun k => match k with
  | _ => ("", "", "", false)
def tyJ9 : Nat → FieldType := fun k => match k with
  | _ => .int
abbrev wsJ90 : List Cond := u_ws RJ9 TJ9 0
theorem nmJ9 : ∀ a, a < 0 → ∀ b, b < 0 → a ≠ b → (TJ9 a).2.1 ≠ (TJ9 b).2.1 := by decide +kernel
theorem tyJ9_ok : ∀ k, k < 0 → parseFieldDescriptor (TJ9 k).2.2.1 = some (tyJ9 k) := by decide +kernel
abbrev cJ9_abs_0f7a4 : ByteArray := prog_17_method_59_code
def yJ9_abs_0f7a4 : MethodName := ⟨RJ9, "abs", "(I)I"⟩
abbrev cJ9_max_7cf53 : ByteArray := prog_17_method_65_code
def yJ9_max_7cf53 : MethodName := ⟨RJ9, "max", "(II)I"⟩
abbrev cJ9_min_7cf53 : ByteArray := prog_17_method_69_code
def yJ9_min_7cf53 : MethodName := ⟨RJ9, "min", "(II)I"⟩
def RJ0 : String := "java/lang/String"
def TJ0 : u_T := fun k => match k with
  | _ => ("", "", "", false)
def tyJ0 : Nat → FieldType := fun k => match k with
  | _ => .int
abbrev wsJ00 : List Cond := u_ws RJ0 TJ0 0
theorem nmJ0 : ∀ a, a < 0 → ∀ b, b < 0 → a ≠ b → (TJ0 a).2.1 ≠ (TJ0 b).2.1 := by decide +kernel
theorem tyJ0_ok : ∀ k, k < 0 → parseFieldDescriptor (TJ0 k).2.2.1 = some (tyJ0 k) := by decide +kernel
def RJ10 : String := "java/lang/System"
def TJ10 : u_T := fun k => match k with
  | _ => ("", "", "", false)
def tyJ10 : Nat → FieldType := fun k => match k with
  | _ => .int
abbrev wsJ100 : List Cond := u_ws RJ10 TJ10 0
theorem nmJ10 : ∀ a, a < 0 → ∀ b, b < 0 → a ≠ b → (TJ10 a).2.1 ≠ (TJ10 b).2.1 := by decide +kernel
theorem tyJ10_ok : ∀ k, k < 0 → parseFieldDescriptor (TJ10 k).2.2.1 = some (tyJ10 k) := by decide +kernel
def RJxa1e45 : String := "java/util/AbstractCollection"
def TJxa1e45 : u_T := fun k => match k with
  | _ => ("", "", "", false)
def tyJxa1e45 : Nat → FieldType := fun k => match k with
  | _ => .int
abbrev wsJxa1e450 : List Cond := u_ws RJxa1e45 TJxa1e45 0
theorem nmJxa1e45 : ∀ a, a < 0 → ∀ b, b < 0 → a ≠ b → (TJxa1e45 a).2.1 ≠ (TJxa1e45 b).2.1 := by decide +kernel
theorem tyJxa1e45_ok : ∀ k, k < 0 → parseFieldDescriptor (TJxa1e45 k).2.2.1 = some (tyJxa1e45 k) := by decide +kernel
abbrev cJxa1e45_init_da8c8 : ByteArray := prog_22_method_1_code
def yJxa1e45_init_da8c8 : MethodName := ⟨RJxa1e45, "<init>", "()V"⟩
def RJxc12de : String := "java/util/AbstractList"
def TJxc12de : u_T := fun k => match k with
  | _ => ("", "", "", false)
def tyJxc12de : Nat → FieldType := fun k => match k with
  | _ => .int
abbrev wsJxc12de0 : List Cond := u_ws RJxc12de TJxc12de 0
theorem nmJxc12de : ∀ a, a < 0 → ∀ b, b < 0 → a ≠ b → (TJxc12de a).2.1 ≠ (TJxc12de b).2.1 := by decide +kernel
theorem tyJxc12de_ok : ∀ k, k < 0 → parseFieldDescriptor (TJxc12de k).2.2.1 = some (tyJxc12de k) := by decide +kernel
abbrev cJxc12de_init_da8c8 : ByteArray := prog_23_method_1_code
def yJxc12de_init_da8c8 : MethodName := ⟨RJxc12de, "<init>", "()V"⟩
def RJx4a65c : String := "java/util/ArrayList"
def TJx4a65c : u_T := fun k => match k with
  | 0 => ("java/util/AbstractList", "modCount", "I", false)
  | 1 => ("java/util/ArrayList", "elementData", "[Ljava/lang/Object;", false)
  | _ => ("java/util/ArrayList", "size", "I", false)
def tyJx4a65c : Nat → FieldType := fun k => match k with
  | 0 => .int
  | 1 => .array (.object "java/lang/Object")
  | _ => .int
abbrev wsJx4a65c0 : List Cond := u_ws RJx4a65c TJx4a65c 3
theorem nmJx4a65c : ∀ a, a < 3 → ∀ b, b < 3 → a ≠ b → (TJx4a65c a).2.1 ≠ (TJx4a65c b).2.1 := by decide +kernel
theorem tyJx4a65c_ok : ∀ k, k < 3 → parseFieldDescriptor (TJx4a65c k).2.2.1 = some (tyJx4a65c k) := by decide +kernel
abbrev cJx4a65c_init_da8c8 : ByteArray := prog_24_method_2_code
def yJx4a65c_init_da8c8 : MethodName := ⟨RJx4a65c, "<init>", "()V"⟩
abbrev cJx4a65c_grow_92f84 : ByteArray := prog_24_method_6_code
def yJx4a65c_grow_92f84 : MethodName := ⟨RJx4a65c, "grow", "(I)[Ljava/lang/Object;"⟩
abbrev cJx4a65c_grow_d5877 : ByteArray := prog_24_method_7_code
def yJx4a65c_grow_d5877 : MethodName := ⟨RJx4a65c, "grow", "()[Ljava/lang/Object;"⟩
abbrev cJx4a65c_size_8abf5 : ByteArray := prog_24_method_8_code
def yJx4a65c_size_8abf5 : MethodName := ⟨RJx4a65c, "size", "()I"⟩
abbrev cJx4a65c_elementData_915e3 : ByteArray := prog_24_method_18_code
def yJx4a65c_elementData_915e3 : MethodName := ⟨RJx4a65c, "elementData", "(I)Ljava/lang/Object;"⟩
abbrev cJx4a65c_get_915e3 : ByteArray := prog_24_method_20_code
def yJx4a65c_get_915e3 : MethodName := ⟨RJx4a65c, "get", "(I)Ljava/lang/Object;"⟩
abbrev cJx4a65c_add_72be8 : ByteArray := prog_24_method_24_code
def yJx4a65c_add_72be8 : MethodName := ⟨RJx4a65c, "add", "(Ljava/lang/Object;[Ljava/lang/Object;I)V"⟩
abbrev cJx4a65c_add_9ea2d : ByteArray := prog_24_method_25_code
def yJx4a65c_add_9ea2d : MethodName := ⟨RJx4a65c, "add", "(Ljava/lang/Object;)Z"⟩
def RJ7 : String := "java/util/Arrays"
def TJ7 : u_T := fun k => match k with
  | _ => ("", "", "", false)
def tyJ7 : Nat → FieldType := fun k => match k with
  | _ => .int
abbrev wsJ70 : List Cond := u_ws RJ7 TJ7 0
theorem nmJ7 : ∀ a, a < 0 → ∀ b, b < 0 → a ≠ b → (TJ7 a).2.1 ≠ (TJ7 b).2.1 := by decide +kernel
theorem tyJ7_ok : ∀ k, k < 0 → parseFieldDescriptor (TJ7 k).2.2.1 = some (tyJ7 k) := by decide +kernel
abbrev cJ7_copyOf_1904c : ByteArray := prog_25_method_119_code
def yJ7_copyOf_1904c : MethodName := ⟨RJ7, "copyOf", "([Ljava/lang/Object;I)[Ljava/lang/Object;"⟩
abbrev cJ7_copyOf_6403c : ByteArray := prog_25_method_120_code
def yJ7_copyOf_6403c : MethodName := ⟨RJ7, "copyOf", "([Ljava/lang/Object;ILjava/lang/Class;)[Ljava/lang/Object;"⟩
def RJx5ef63 : String := "java/util/Collection"
def TJx5ef63 : u_T := fun k => match k with
  | _ => ("", "", "", false)
def tyJx5ef63 : Nat → FieldType := fun k => match k with
  | _ => .int
abbrev wsJx5ef630 : List Cond := u_ws RJx5ef63 TJx5ef63 0
theorem nmJx5ef63 : ∀ a, a < 0 → ∀ b, b < 0 → a ≠ b → (TJx5ef63 a).2.1 ≠ (TJx5ef63 b).2.1 := by decide +kernel
theorem tyJx5ef63_ok : ∀ k, k < 0 → parseFieldDescriptor (TJx5ef63 k).2.2.1 = some (tyJx5ef63 k) := by decide +kernel
def RJxbd725 : String := "java/util/List"
def TJxbd725 : u_T := fun k => match k with
  | _ => ("", "", "", false)
def tyJxbd725 : Nat → FieldType := fun k => match k with
  | _ => .int
abbrev wsJxbd7250 : List Cond := u_ws RJxbd725 TJxbd725 0
theorem nmJxbd725 : ∀ a, a < 0 → ∀ b, b < 0 → a ≠ b → (TJxbd725 a).2.1 ≠ (TJxbd725 b).2.1 := by decide +kernel
theorem tyJxbd725_ok : ∀ k, k < 0 → parseFieldDescriptor (TJxbd725 k).2.2.1 = some (tyJxbd725 k) := by decide +kernel
def RJ15 : String := "java/util/Objects"
def TJ15 : u_T := fun k => match k with
  | _ => ("", "", "", false)
def tyJ15 : Nat → FieldType := fun k => match k with
  | _ => .int
abbrev wsJ150 : List Cond := u_ws RJ15 TJ15 0
theorem nmJ15 : ∀ a, a < 0 → ∀ b, b < 0 → a ≠ b → (TJ15 a).2.1 ≠ (TJ15 b).2.1 := by decide +kernel
theorem tyJ15_ok : ∀ k, k < 0 → parseFieldDescriptor (TJ15 k).2.2.1 = some (tyJ15 k) := by decide +kernel
abbrev cJ15_checkIndex_7cf53 : ByteArray := prog_28_method_17_code
def yJ15_checkIndex_7cf53 : MethodName := ⟨RJ15, "checkIndex", "(II)I"⟩
def RJxf0a74 : String := "java/util/RandomAccess"
def TJxf0a74 : u_T := fun k => match k with
  | _ => ("", "", "", false)
def tyJxf0a74 : Nat → FieldType := fun k => match k with
  | _ => .int
abbrev wsJxf0a740 : List Cond := u_ws RJxf0a74 TJxf0a74 0
theorem nmJxf0a74 : ∀ a, a < 0 → ∀ b, b < 0 → a ≠ b → (TJxf0a74 a).2.1 ≠ (TJxf0a74 b).2.1 := by decide +kernel
theorem tyJxf0a74_ok : ∀ k, k < 0 → parseFieldDescriptor (TJxf0a74 k).2.2.1 = some (tyJxf0a74 k) := by decide +kernel
def RJxa66e6 : String := "java/util/SequencedCollection"
def TJxa66e6 : u_T := fun k => match k with
  | _ => ("", "", "", false)
def tyJxa66e6 : Nat → FieldType := fun k => match k with
  | _ => .int
abbrev wsJxa66e60 : List Cond := u_ws RJxa66e6 TJxa66e6 0
theorem nmJxa66e6 : ∀ a, a < 0 → ∀ b, b < 0 → a ≠ b → (TJxa66e6 a).2.1 ≠ (TJxa66e6 b).2.1 := by decide +kernel
theorem tyJxa66e6_ok : ∀ k, k < 0 → parseFieldDescriptor (TJxa66e6 k).2.2.1 = some (tyJxa66e6 k) := by decide +kernel
def RJ8 : String := "jdk/internal/util/ArraysSupport"
def TJ8 : u_T := fun k => match k with
  | _ => ("", "", "", false)
def tyJ8 : Nat → FieldType := fun k => match k with
  | _ => .int
abbrev wsJ80 : List Cond := u_ws RJ8 TJ8 0
theorem nmJ8 : ∀ a, a < 0 → ∀ b, b < 0 → a ≠ b → (TJ8 a).2.1 ≠ (TJ8 b).2.1 := by decide +kernel
theorem tyJ8_ok : ∀ k, k < 0 → parseFieldDescriptor (TJ8 k).2.2.1 = some (tyJ8 k) := by decide +kernel
abbrev cJ8_newLength_cabcc : ByteArray := prog_31_method_27_code
def yJ8_newLength_cabcc : MethodName := ⟨RJ8, "newLength", "(III)I"⟩
abbrev cJ8_hugeLength_7cf53 : ByteArray := prog_31_method_28_code
def yJ8_hugeLength_7cf53 : MethodName := ⟨RJ8, "hugeLength", "(II)I"⟩
def RJ3 : String := "jdk/internal/util/Preconditions"
def TJ3 : u_T := fun k => match k with
  | _ => ("", "", "", false)
def tyJ3 : Nat → FieldType := fun k => match k with
  | _ => .int
abbrev wsJ30 : List Cond := u_ws RJ3 TJ3 0
theorem nmJ3 : ∀ a, a < 0 → ∀ b, b < 0 → a ≠ b → (TJ3 a).2.1 ≠ (TJ3 b).2.1 := by decide +kernel
theorem tyJ3_ok : ∀ k, k < 0 → parseFieldDescriptor (TJ3 k).2.2.1 = some (tyJ3 k) := by decide +kernel
abbrev cJ3_checkIndex_8e157 : ByteArray := prog_32_method_11_code
def yJ3_checkIndex_8e157 : MethodName := ⟨RJ3, "checkIndex", "(IILjava/util/function/BiFunction;)I"⟩
def RL : String := "CablecourtLaw"
abbrev cL_at : ByteArray := method_2_code
def yL_at : MethodName := ⟨RL, "at", "([II)I"⟩
abbrev cL_low : ByteArray := method_3_code
def yL_low : MethodName := ⟨RL, "low", "(II)I"⟩
abbrev cL_cable : ByteArray := method_4_code
def yL_cable : MethodName := ⟨RL, "cable", "(LCablecourt;IIII)I"⟩
abbrev cL_demand : ByteArray := method_5_code
def yL_demand : MethodName := ⟨RL, "demand", "(LCablecourt;IIII)I"⟩
abbrev cL_sell : ByteArray := method_6_code
def yL_sell : MethodName := ⟨RL, "sell", "(LCablecourt;IIIII)I"⟩
abbrev cL_cut : ByteArray := method_7_code
def yL_cut : MethodName := ⟨RL, "cut", "(LCablecourt;II)I"⟩
abbrev cL_ship : ByteArray := method_8_code
def yL_ship : MethodName := ⟨RL, "ship", "(LCablecourt;III)I"⟩
abbrev cL_send : ByteArray := method_9_code
def yL_send : MethodName := ⟨RL, "send", "(LCablecourt;II)I"⟩
abbrev cL_fill : ByteArray := method_10_code
def yL_fill : MethodName := ⟨RL, "fill", "(LCablecourt;II)I"⟩
abbrev cL_storm : ByteArray := method_11_code
def yL_storm : MethodName := ⟨RL, "storm", "(LCablecourt;II)I"⟩
abbrev cL_pass : ByteArray := method_12_code
def yL_pass : MethodName := ⟨RL, "pass", "(LCablecourt;I)I"⟩
abbrev cL_owned : ByteArray := method_13_code
def yL_owned : MethodName := ⟨RL, "owned", "(LCablecourt;II)I"⟩
abbrev cL_isWhole : ByteArray := method_14_code
def yL_isWhole : MethodName := ⟨RL, "isWhole", "(LCablecourt;I)I"⟩
abbrev cL_way : ByteArray := method_15_code
def yL_way : MethodName := ⟨RL, "way", "(LCablecourt;I)I"⟩
abbrev cL_lent : ByteArray := method_16_code
def yL_lent : MethodName := ⟨RL, "lent", "(LCablecourt;I)I"⟩
abbrev cL_owes : ByteArray := method_17_code
def yL_owes : MethodName := ⟨RL, "owes", "(LCablecourt;II)I"⟩
abbrev cL_owesAnew : ByteArray := method_18_code
def yL_owesAnew : MethodName := ⟨RL, "owesAnew", "(LCablecourt;II)I"⟩
abbrev cL_account : ByteArray := method_19_code
def yL_account : MethodName := ⟨RL, "account", "(LCablecourt;I)I"⟩
abbrev cL_sold : ByteArray := method_20_code
def yL_sold : MethodName := ⟨RL, "sold", "(LCablecourt;II)I"⟩
abbrev cL_place : ByteArray := method_21_code
def yL_place : MethodName := ⟨RL, "place", "(LCablecourt;I)I"⟩
abbrev cL_worked : ByteArray := method_22_code
def yL_worked : MethodName := ⟨RL, "worked", "(LCablecourt;I)I"⟩
abbrev cL_adds : ByteArray := method_23_code
def yL_adds : MethodName := ⟨RL, "adds", "(LCablecourt;[I[I[III)Z"⟩
abbrev cL_sets : ByteArray := method_24_code
def yL_sets : MethodName := ⟨RL, "sets", "(LCablecourt;[I[III)Z"⟩
abbrev cL_isWay : ByteArray := method_25_code
def yL_isWay : MethodName := ⟨RL, "isWay", "([IIII)Z"⟩
abbrev cL_passes : ByteArray := method_26_code
def yL_passes : MethodName := ⟨RL, "passes", "(LCablecourt;[I[I[I[II)Z"⟩
abbrev cL_isSealed : ByteArray := method_27_code
def yL_isSealed : MethodName := ⟨RL, "isSealed", "(LCablecourt;)Z"⟩
abbrev cL_acts : ByteArray := method_28_code
def yL_acts : MethodName := ⟨RL, "acts", "(LCablecourt;[I[I[I[III)Z"⟩
abbrev cL_law : ByteArray := code
def yL_law : MethodName := ⟨RL, "law", "([I)Z"⟩
abbrev vwCl : List vw_C := [(RJx4a65c, TJx4a65c, 3), (RX0, TX0, 7), (RX1, TX1, 5), (RX2, TX2, 5), (RX3, TX3, 16), (RX4, TX4, 5), (RX5, TX5, 4), (RX6, TX6, 15)]
