/-! ===== BEGIN printed: names, fields, word lists, decode rows ===== -/
def RX0 : String := "Gasvault$Customer"
def TX0 : u_T := fun k => match k with
  | 0 => ("Gasvault$Customer", "volume", "I", true)
  | 1 => ("Gasvault$Customer", "in", "I", true)
  | 2 => ("Gasvault$Customer", "out", "I", true)
  | 3 => ("Gasvault$Customer", "rank", "I", true)
  | 4 => ("Gasvault$Customer", "nominations", "LGasvault$Hours;", true)
  | 5 => ("Gasvault$Customer", "inventory", "I", false)
  | 6 => ("Gasvault$Customer", "brought", "J", false)
  | 7 => ("Gasvault$Customer", "taken", "J", false)
  | 8 => ("Gasvault$Customer", "curtailed", "J", false)
  | 9 => ("Gasvault$Customer", "planned", "I", false)
  | 10 => ("Gasvault$Customer", "cut", "I", false)
  | _ => ("Gasvault$Customer", "cause", "I", false)
def tyX0 : Nat → FieldType := fun k => match k with
  | 0 => .int
  | 1 => .int
  | 2 => .int
  | 3 => .int
  | 4 => .object "Gasvault$Hours"
  | 5 => .int
  | 6 => .long
  | 7 => .long
  | 8 => .long
  | 9 => .int
  | 10 => .int
  | _ => .int
abbrev wsX00 : List Cond := u_ws RX0 TX0 12
theorem nmX0 : ∀ a, a < 12 → ∀ b, b < 12 → a ≠ b → (TX0 a).2.1 ≠ (TX0 b).2.1 := by decide +kernel
theorem tyX0_ok : ∀ k, k < 12 → parseFieldDescriptor (TX0 k).2.2.1 = some (tyX0 k) := by decide +kernel
abbrev cX0_init : ByteArray := prog_2_method_1_code
def yX0_init : MethodName := ⟨RX0, "<init>", "(IIII)V"⟩
abbrev cX0_rateInWith : ByteArray := prog_2_method_2_code
def yX0_rateInWith : MethodName := ⟨RX0, "rateInWith", "(I)I"⟩
abbrev cX0_rateOutWith : ByteArray := prog_2_method_3_code
def yX0_rateOutWith : MethodName := ⟨RX0, "rateOutWith", "(I)I"⟩
abbrev cX0_mostIn : ByteArray := prog_2_method_4_code
def yX0_mostIn : MethodName := ⟨RX0, "mostIn", "(I)I"⟩
abbrev cX0_mostOut : ByteArray := prog_2_method_5_code
def yX0_mostOut : MethodName := ⟨RX0, "mostOut", "(I)I"⟩
abbrev cX0_planByRates : ByteArray := prog_2_method_6_code
def yX0_planByRates : MethodName := ⟨RX0, "planByRates", "(I)V"⟩
abbrev cX0_sizeOfPlan : ByteArray := prog_2_method_7_code
def yX0_sizeOfPlan : MethodName := ⟨RX0, "sizeOfPlan", "(Z)I"⟩
abbrev cX0_cutBack : ByteArray := prog_2_method_8_code
def yX0_cutBack : MethodName := ⟨RX0, "cutBack", "(ZII)I"⟩
abbrev cX0_settle : ByteArray := prog_2_method_9_code
def yX0_settle : MethodName := ⟨RX0, "settle", "(I)V"⟩
def RX1 : String := "Gasvault$Hours"
def TX1 : u_T := fun k => match k with
  | _ => ("Gasvault$Hours", "values", "[I", true)
def tyX1 : Nat → FieldType := fun k => match k with
  | _ => .array .int
abbrev wsX10 : List Cond := u_ws RX1 TX1 1
theorem nmX1 : ∀ a, a < 1 → ∀ b, b < 1 → a ≠ b → (TX1 a).2.1 ≠ (TX1 b).2.1 := by decide +kernel
theorem tyX1_ok : ∀ k, k < 1 → parseFieldDescriptor (TX1 k).2.2.1 = some (tyX1 k) := by decide +kernel
abbrev cX1_init : ByteArray := prog_3_method_1_code
def yX1_init : MethodName := ⟨RX1, "<init>", "()V"⟩
abbrev cX1_at : ByteArray := prog_3_method_2_code
def yX1_at : MethodName := ⟨RX1, "at", "(I)I"⟩
abbrev cX1_put : ByteArray := prog_3_method_3_code
def yX1_put : MethodName := ⟨RX1, "put", "(II)I"⟩
def RX2 : String := "Gasvault$Law"
def TX2 : u_T := fun k => match k with
  | 0 => ("Gasvault$Law", "from", "I", true)
  | 1 => ("Gasvault$Law", "to", "I", true)
  | _ => ("Gasvault$Law", "least", "I", true)
def tyX2 : Nat → FieldType := fun k => match k with
  | 0 => .int
  | 1 => .int
  | _ => .int
abbrev wsX20 : List Cond := u_ws RX2 TX2 3
theorem nmX2 : ∀ a, a < 3 → ∀ b, b < 3 → a ≠ b → (TX2 a).2.1 ≠ (TX2 b).2.1 := by decide +kernel
theorem tyX2_ok : ∀ k, k < 3 → parseFieldDescriptor (TX2 k).2.2.1 = some (tyX2 k) := by decide +kernel
abbrev cX2_init : ByteArray := prog_4_method_1_code
def yX2_init : MethodName := ⟨RX2, "<init>", "(III)V"⟩
def RX3 : String := "Gasvault$Store"
def TX3 : u_T := fun k => match k with
  | 0 => ("Gasvault$Store", "kind", "I", true)
  | 1 => ("Gasvault$Store", "least", "I", true)
  | 2 => ("Gasvault$Store", "greatest", "I", true)
  | 3 => ("Gasvault$Store", "mark", "I", true)
  | 4 => ("Gasvault$Store", "volume", "I", false)
  | 5 => ("Gasvault$Store", "water", "I", false)
  | 6 => ("Gasvault$Store", "gas", "I", false)
  | 7 => ("Gasvault$Store", "heat", "J", false)
  | 8 => ("Gasvault$Store", "wells", "I", false)
  | 9 => ("Gasvault$Store", "strength", "I", false)
  | _ => ("Gasvault$Store", "leak", "I", false)
def tyX3 : Nat → FieldType := fun k => match k with
  | 0 => .int
  | 1 => .int
  | 2 => .int
  | 3 => .int
  | 4 => .int
  | 5 => .int
  | 6 => .int
  | 7 => .long
  | 8 => .int
  | 9 => .int
  | _ => .int
abbrev wsX30 : List Cond := u_ws RX3 TX3 11
theorem nmX3 : ∀ a, a < 11 → ∀ b, b < 11 → a ≠ b → (TX3 a).2.1 ≠ (TX3 b).2.1 := by decide +kernel
theorem tyX3_ok : ∀ k, k < 11 → parseFieldDescriptor (TX3 k).2.2.1 = some (tyX3 k) := by decide +kernel
abbrev cX3_init : ByteArray := prog_5_method_1_code
def yX3_init : MethodName := ⟨RX3, "<init>", "(IIIII)V"⟩
abbrev cX3_leastGasFor : ByteArray := prog_5_method_2_code
def yX3_leastGasFor : MethodName := ⟨RX3, "leastGasFor", "(II)I"⟩
abbrev cX3_mostGasFor : ByteArray := prog_5_method_3_code
def yX3_mostGasFor : MethodName := ⟨RX3, "mostGasFor", "(II)I"⟩
abbrev cX3_room : ByteArray := prog_5_method_4_code
def yX3_room : MethodName := ⟨RX3, "room", "()I"⟩
abbrev cX3_pressureNow : ByteArray := prog_5_method_5_code
def yX3_pressureNow : MethodName := ⟨RX3, "pressureNow", "()I"⟩
abbrev cX3_leastGas : ByteArray := prog_5_method_6_code
def yX3_leastGas : MethodName := ⟨RX3, "leastGas", "()I"⟩
abbrev cX3_mostGas : ByteArray := prog_5_method_7_code
def yX3_mostGas : MethodName := ⟨RX3, "mostGas", "()I"⟩
abbrev cX3_rateIn : ByteArray := prog_5_method_8_code
def yX3_rateIn : MethodName := ⟨RX3, "rateIn", "()I"⟩
abbrev cX3_rateOut : ByteArray := prog_5_method_9_code
def yX3_rateOut : MethodName := ⟨RX3, "rateOut", "()I"⟩
abbrev cX3_rateBy : ByteArray := prog_5_method_10_code
def yX3_rateBy : MethodName := ⟨RX3, "rateBy", "(II)I"⟩
abbrev cX3_takeIn : ByteArray := prog_5_method_11_code
def yX3_takeIn : MethodName := ⟨RX3, "takeIn", "(II)V"⟩
abbrev cX3_giveAway : ByteArray := prog_5_method_12_code
def yX3_giveAway : MethodName := ⟨RX3, "giveAway", "(I)I"⟩
abbrev cX3_loseInAnHour : ByteArray := prog_5_method_13_code
def yX3_loseInAnHour : MethodName := ⟨RX3, "loseInAnHour", "()I"⟩
abbrev cX3_loseAtDaysEnd : ByteArray := prog_5_method_14_code
def yX3_loseAtDaysEnd : MethodName := ⟨RX3, "loseAtDaysEnd", "()I"⟩
abbrev cX3_moveWater : ByteArray := prog_5_method_15_code
def yX3_moveWater : MethodName := ⟨RX3, "moveWater", "()V"⟩
abbrev cX3_creep : ByteArray := prog_5_method_16_code
def yX3_creep : MethodName := ⟨RX3, "creep", "()V"⟩
def RX4 : String := "Gasvault"
def TX4 : u_T := fun k => match k with
  | 0 => ("Gasvault", "stores", "Ljava/util/ArrayList;", true)
  | 1 => ("Gasvault", "customers", "Ljava/util/ArrayList;", true)
  | 2 => ("Gasvault", "laws", "Ljava/util/ArrayList;", true)
  | 3 => ("Gasvault", "prices", "LGasvault$Hours;", true)
  | 4 => ("Gasvault", "hour", "I", false)
  | 5 => ("Gasvault", "heatOfWhatComes", "I", false)
  | 6 => ("Gasvault", "lastHourIn", "I", false)
  | 7 => ("Gasvault", "lastHourOut", "I", false)
  | 8 => ("Gasvault", "came", "J", false)
  | 9 => ("Gasvault", "wentOut", "J", false)
  | _ => ("Gasvault", "lost", "J", false)
def tyX4 : Nat → FieldType := fun k => match k with
  | 0 => .object "java/util/ArrayList"
  | 1 => .object "java/util/ArrayList"
  | 2 => .object "java/util/ArrayList"
  | 3 => .object "Gasvault$Hours"
  | 4 => .int
  | 5 => .int
  | 6 => .int
  | 7 => .int
  | 8 => .long
  | 9 => .long
  | _ => .long
abbrev wsX40 : List Cond := u_ws RX4 TX4 11
theorem nmX4 : ∀ a, a < 11 → ∀ b, b < 11 → a ≠ b → (TX4 a).2.1 ≠ (TX4 b).2.1 := by decide +kernel
theorem tyX4_ok : ∀ k, k < 11 → parseFieldDescriptor (TX4 k).2.2.1 = some (tyX4 k) := by decide +kernel
abbrev cX4_init : ByteArray := prog_1_method_1_code
def yX4_init : MethodName := ⟨RX4, "<init>", "()V"⟩
abbrev cX4_store : ByteArray := prog_1_method_2_code
def yX4_store : MethodName := ⟨RX4, "store", "(IIIIII)I"⟩
abbrev cX4_wells : ByteArray := prog_1_method_3_code
def yX4_wells : MethodName := ⟨RX4, "wells", "(III)I"⟩
abbrev cX4_leak : ByteArray := prog_1_method_4_code
def yX4_leak : MethodName := ⟨RX4, "leak", "(II)I"⟩
abbrev cX4_leach : ByteArray := prog_1_method_5_code
def yX4_leach : MethodName := ⟨RX4, "leach", "(II)I"⟩
abbrev cX4_heat : ByteArray := prog_1_method_6_code
def yX4_heat : MethodName := ⟨RX4, "heat", "(I)I"⟩
abbrev cX4_customer : ByteArray := prog_1_method_7_code
def yX4_customer : MethodName := ⟨RX4, "customer", "(IIII)I"⟩
abbrev cX4_nominate : ByteArray := prog_1_method_8_code
def yX4_nominate : MethodName := ⟨RX4, "nominate", "(III)I"⟩
abbrev cX4_transfer : ByteArray := prog_1_method_9_code
def yX4_transfer : MethodName := ⟨RX4, "transfer", "(III)I"⟩
abbrev cX4_law : ByteArray := prog_1_method_10_code
def yX4_law : MethodName := ⟨RX4, "law", "(III)I"⟩
abbrev cX4_price : ByteArray := prog_1_method_11_code
def yX4_price : MethodName := ⟨RX4, "price", "(II)I"⟩
abbrev cX4_pass : ByteArray := prog_1_method_12_code
def yX4_pass : MethodName := ⟨RX4, "pass", "(I)I"⟩
abbrev cX4_pressure : ByteArray := prog_1_method_13_code
def yX4_pressure : MethodName := ⟨RX4, "pressure", "(I)I"⟩
abbrev cX4_rate : ByteArray := prog_1_method_14_code
def yX4_rate : MethodName := ⟨RX4, "rate", "(IZ)I"⟩
abbrev cX4_mix : ByteArray := prog_1_method_15_code
def yX4_mix : MethodName := ⟨RX4, "mix", "(I)I"⟩
abbrev cX4_ofStore : ByteArray := prog_1_method_16_code
def yX4_ofStore : MethodName := ⟨RX4, "ofStore", "(II)J"⟩
abbrev cX4_ofCustomer : ByteArray := prog_1_method_17_code
def yX4_ofCustomer : MethodName := ⟨RX4, "ofCustomer", "(II)J"⟩
abbrev cX4_flow : ByteArray := prog_1_method_18_code
def yX4_flow : MethodName := ⟨RX4, "flow", "(I)I"⟩
abbrev cX4_why : ByteArray := prog_1_method_19_code
def yX4_why : MethodName := ⟨RX4, "why", "(I)I"⟩
abbrev cX4_worth : ByteArray := prog_1_method_20_code
def yX4_worth : MethodName := ⟨RX4, "worth", "(II)J"⟩
abbrev cX4_worthAnew : ByteArray := prog_1_method_21_code
def yX4_worthAnew : MethodName := ⟨RX4, "worthAnew", "(II)J"⟩
abbrev cX4_of : ByteArray := prog_1_method_22_code
def yX4_of : MethodName := ⟨RX4, "of", "(I)J"⟩
abbrev cX4_isWithin : ByteArray := prog_1_method_23_code
def yX4_isWithin : MethodName := ⟨RX4, "isWithin", "(III)Z"⟩
abbrev cX4_storeNumbered : ByteArray := prog_1_method_24_code
def yX4_storeNumbered : MethodName := ⟨RX4, "storeNumbered", "(I)LGasvault$Store;"⟩
abbrev cX4_customerNumbered : ByteArray := prog_1_method_25_code
def yX4_customerNumbered : MethodName := ⟨RX4, "customerNumbered", "(I)LGasvault$Customer;"⟩
abbrev cX4_gasInAllStores : ByteArray := prog_1_method_26_code
def yX4_gasInAllStores : MethodName := ⟨RX4, "gasInAllStores", "()I"⟩
abbrev cX4_allInventories : ByteArray := prog_1_method_27_code
def yX4_allInventories : MethodName := ⟨RX4, "allInventories", "()I"⟩
abbrev cX4_leastByLaw : ByteArray := prog_1_method_28_code
def yX4_leastByLaw : MethodName := ⟨RX4, "leastByLaw", "()I"⟩
abbrev cX4_planTheHour : ByteArray := prog_1_method_29_code
def yX4_planTheHour : MethodName := ⟨RX4, "planTheHour", "()V"⟩
abbrev cX4_plannedAboveTheLaw : ByteArray := prog_1_method_30_code
def yX4_plannedAboveTheLaw : MethodName := ⟨RX4, "plannedAboveTheLaw", "()I"⟩
abbrev cX4_plannedNet : ByteArray := prog_1_method_31_code
def yX4_plannedNet : MethodName := ⟨RX4, "plannedNet", "()I"⟩
abbrev cX4_capacityOfPlant : ByteArray := prog_1_method_32_code
def yX4_capacityOfPlant : MethodName := ⟨RX4, "capacityOfPlant", "(Z)I"⟩
abbrev cX4_curtail : ByteArray := prog_1_method_33_code
def yX4_curtail : MethodName := ⟨RX4, "curtail", "(ZII)V"⟩
abbrev cX4_goOneHour : ByteArray := prog_1_method_34_code
def yX4_goOneHour : MethodName := ⟨RX4, "goOneHour", "()V"⟩
abbrev cX4_flowIn : ByteArray := prog_1_method_35_code
def yX4_flowIn : MethodName := ⟨RX4, "flowIn", "(I)V"⟩
abbrev cX4_flowOut : ByteArray := prog_1_method_36_code
def yX4_flowOut : MethodName := ⟨RX4, "flowOut", "(I)V"⟩
abbrev cX4_endTheDay : ByteArray := prog_1_method_37_code
def yX4_endTheDay : MethodName := ⟨RX4, "endTheDay", "()V"⟩
abbrev cX4_bestSum : ByteArray := prog_1_method_38_code
def yX4_bestSum : MethodName := ⟨RX4, "bestSum", "(LGasvault$Customer;LGasvault$Hours;III)J"⟩
abbrev cX4_sumOfWay : ByteArray := prog_1_method_39_code
def yX4_sumOfWay : MethodName := ⟨RX4, "sumOfWay", "(LGasvault$Customer;II)J"⟩
def RX5 : String := "GasvaultModel"
def TX5 : u_T := fun k => match k with
  | _ => ("", "", "", false)
def tyX5 : Nat → FieldType := fun k => match k with
  | _ => .int
abbrev wsX50 : List Cond := u_ws RX5 TX5 0
theorem nmX5 : ∀ a, a < 0 → ∀ b, b < 0 → a ≠ b → (TX5 a).2.1 ≠ (TX5 b).2.1 := by decide +kernel
theorem tyX5_ok : ∀ k, k < 0 → parseFieldDescriptor (TX5 k).2.2.1 = some (tyX5 k) := by decide +kernel
def RJx145de : String := "java/io/Serializable"
def TJx145de : u_T := fun k => match k with
  | _ => ("", "", "", false)
def tyJx145de : Nat → FieldType := fun k => match k with
  | _ => .int
abbrev wsJx145de0 : List Cond := u_ws RJx145de TJx145de 0
theorem nmJx145de : ∀ a, a < 0 → ∀ b, b < 0 → a ≠ b → (TJx145de a).2.1 ≠ (TJx145de b).2.1 := by decide +kernel
theorem tyJx145de_ok : ∀ k, k < 0 → parseFieldDescriptor (TJx145de k).2.2.1 = some (tyJx145de k) := by decide +kernel
def RJx8e188 : String := "java/lang/Cloneable"
def TJx8e188 : u_T := fun k => match k with
  | _ => ("", "", "", false)
def tyJx8e188 : Nat → FieldType := fun k => match k with
  | _ => .int
abbrev wsJx8e1880 : List Cond := u_ws RJx8e188 TJx8e188 0
theorem nmJx8e188 : ∀ a, a < 0 → ∀ b, b < 0 → a ≠ b → (TJx8e188 a).2.1 ≠ (TJx8e188 b).2.1 := by decide +kernel
theorem tyJx8e188_ok : ∀ k, k < 0 → parseFieldDescriptor (TJx8e188 k).2.2.1 = some (tyJx8e188 k) := by decide +kernel
def RJxab1ab : String := "java/lang/Iterable"
def TJxab1ab : u_T := fun k => match k with
  | _ => ("", "", "", false)
def tyJxab1ab : Nat → FieldType := fun k => match k with
  | _ => .int
abbrev wsJxab1ab0 : List Cond := u_ws RJxab1ab TJxab1ab 0
theorem nmJxab1ab : ∀ a, a < 0 → ∀ b, b < 0 → a ≠ b → (TJxab1ab a).2.1 ≠ (TJxab1ab b).2.1 := by decide +kernel
theorem tyJxab1ab_ok : ∀ k, k < 0 → parseFieldDescriptor (TJxab1ab k).2.2.1 = some (tyJxab1ab k) := by decide +kernel
def RJ9 : String := "java/lang/Math"
def TJ9 : u_T := fun k => match k with
  | _ => ("", "", "", false)
def tyJ9 : Nat → FieldType := fun k => match k with
  | _ => .int
abbrev wsJ90 : List Cond := u_ws RJ9 TJ9 0
theorem nmJ9 : ∀ a, a < 0 → ∀ b, b < 0 → a ≠ b → (TJ9 a).2.1 ≠ (TJ9 b).2.1 := by decide +kernel
theorem tyJ9_ok : ∀ k, k < 0 → parseFieldDescriptor (TJ9 k).2.2.1 = some (tyJ9 k) := by decide +kernel
abbrev cJ9_floorMod_7cf53 : ByteArray := prog_15_method_50_code
def yJ9_floorMod_7cf53 : MethodName := ⟨RJ9, "floorMod", "(II)I"⟩
abbrev cJ9_abs_0f7a4 : ByteArray := prog_15_method_59_code
def yJ9_abs_0f7a4 : MethodName := ⟨RJ9, "abs", "(I)I"⟩
abbrev cJ9_max_7cf53 : ByteArray := prog_15_method_65_code
def yJ9_max_7cf53 : MethodName := ⟨RJ9, "max", "(II)I"⟩
abbrev cJ9_max_f86c9 : ByteArray := prog_15_method_66_code
def yJ9_max_f86c9 : MethodName := ⟨RJ9, "max", "(JJ)J"⟩
abbrev cJ9_min_7cf53 : ByteArray := prog_15_method_69_code
def yJ9_min_7cf53 : MethodName := ⟨RJ9, "min", "(II)I"⟩
def RJ0 : String := "java/lang/String"
def TJ0 : u_T := fun k => match k with
  | _ => ("", "", "", false)
def tyJ0 : Nat → FieldType := fun k => match k with
  | _ => .int
abbrev wsJ00 : List Cond := u_ws RJ0 TJ0 0
theorem nmJ0 : ∀ a, a < 0 → ∀ b, b < 0 → a ≠ b → (TJ0 a).2.1 ≠ (TJ0 b).2.1 := by decide +kernel
theorem tyJ0_ok : ∀ k, k < 0 → parseFieldDescriptor (TJ0 k).2.2.1 = some (tyJ0 k) := by decide +kernel
def RJ10 : String := "java/lang/System"
def TJ10 : u_T := fun k => match k with
  | _ => ("", "", "", false)
def tyJ10 : Nat → FieldType := fun k => match k with
  | _ => .int
abbrev wsJ100 : List Cond := u_ws RJ10 TJ10 0
theorem nmJ10 : ∀ a, a < 0 → ∀ b, b < 0 → a ≠ b → (TJ10 a).2.1 ≠ (TJ10 b).2.1 := by decide +kernel
theorem tyJ10_ok : ∀ k, k < 0 → parseFieldDescriptor (TJ10 k).2.2.1 = some (tyJ10 k) := by decide +kernel
def RJxa1e45 : String := "java/util/AbstractCollection"
def TJxa1e45 : u_T := fun k => match k with
  | _ => ("", "", "", false)
def tyJxa1e45 : Nat → FieldType := fun k => match k with
  | _ => .int
abbrev wsJxa1e450 : List Cond := u_ws RJxa1e45 TJxa1e45 0
theorem nmJxa1e45 : ∀ a, a < 0 → ∀ b, b < 0 → a ≠ b → (TJxa1e45 a).2.1 ≠ (TJxa1e45 b).2.1 := by decide +kernel
theorem tyJxa1e45_ok : ∀ k, k < 0 → parseFieldDescriptor (TJxa1e45 k).2.2.1 = some (tyJxa1e45 k) := by decide +kernel
abbrev cJxa1e45_init_da8c8 : ByteArray := prog_20_method_1_code
def yJxa1e45_init_da8c8 : MethodName := ⟨RJxa1e45, "<init>", "()V"⟩
def RJxc12de : String := "java/util/AbstractList"
def TJxc12de : u_T := fun k => match k with
  | _ => ("", "", "", false)
def tyJxc12de : Nat → FieldType := fun k => match k with
  | _ => .int
abbrev wsJxc12de0 : List Cond := u_ws RJxc12de TJxc12de 0
theorem nmJxc12de : ∀ a, a < 0 → ∀ b, b < 0 → a ≠ b → (TJxc12de a).2.1 ≠ (TJxc12de b).2.1 := by decide +kernel
theorem tyJxc12de_ok : ∀ k, k < 0 → parseFieldDescriptor (TJxc12de k).2.2.1 = some (tyJxc12de k) := by decide +kernel
abbrev cJxc12de_init_da8c8 : ByteArray := prog_21_method_1_code
def yJxc12de_init_da8c8 : MethodName := ⟨RJxc12de, "<init>", "()V"⟩
def RJx4a65c : String := "java/util/ArrayList"
def TJx4a65c : u_T := fun k => match k with
  | 0 => ("java/util/AbstractList", "modCount", "I", false)
  | 1 => ("java/util/ArrayList", "elementData", "[Ljava/lang/Object;", false)
  | _ => ("java/util/ArrayList", "size", "I", false)
def tyJx4a65c : Nat → FieldType := fun k => match k with
  | 0 => .int
  | 1 => .array (.object "java/lang/Object")
  | _ => .int
abbrev wsJx4a65c0 : List Cond := u_ws RJx4a65c TJx4a65c 3
theorem nmJx4a65c : ∀ a, a < 3 → ∀ b, b < 3 → a ≠ b → (TJx4a65c a).2.1 ≠ (TJx4a65c b).2.1 := by decide +kernel
theorem tyJx4a65c_ok : ∀ k, k < 3 → parseFieldDescriptor (TJx4a65c k).2.2.1 = some (tyJx4a65c k) := by decide +kernel
abbrev cJx4a65c_init_da8c8 : ByteArray := prog_22_method_2_code
def yJx4a65c_init_da8c8 : MethodName := ⟨RJx4a65c, "<init>", "()V"⟩
abbrev cJx4a65c_grow_92f84 : ByteArray := prog_22_method_6_code
def yJx4a65c_grow_92f84 : MethodName := ⟨RJx4a65c, "grow", "(I)[Ljava/lang/Object;"⟩
abbrev cJx4a65c_grow_d5877 : ByteArray := prog_22_method_7_code
def yJx4a65c_grow_d5877 : MethodName := ⟨RJx4a65c, "grow", "()[Ljava/lang/Object;"⟩
abbrev cJx4a65c_size_8abf5 : ByteArray := prog_22_method_8_code
def yJx4a65c_size_8abf5 : MethodName := ⟨RJx4a65c, "size", "()I"⟩
abbrev cJx4a65c_elementData_915e3 : ByteArray := prog_22_method_18_code
def yJx4a65c_elementData_915e3 : MethodName := ⟨RJx4a65c, "elementData", "(I)Ljava/lang/Object;"⟩
abbrev cJx4a65c_get_915e3 : ByteArray := prog_22_method_20_code
def yJx4a65c_get_915e3 : MethodName := ⟨RJx4a65c, "get", "(I)Ljava/lang/Object;"⟩
abbrev cJx4a65c_add_72be8 : ByteArray := prog_22_method_24_code
def yJx4a65c_add_72be8 : MethodName := ⟨RJx4a65c, "add", "(Ljava/lang/Object;[Ljava/lang/Object;I)V"⟩
abbrev cJx4a65c_add_9ea2d : ByteArray := prog_22_method_25_code
def yJx4a65c_add_9ea2d : MethodName := ⟨RJx4a65c, "add", "(Ljava/lang/Object;)Z"⟩
def RJ7 : String := "java/util/Arrays"
def TJ7 : u_T := fun k => match k with
  | _ => ("", "", "", false)
def tyJ7 : Nat → FieldType := fun k => match k with
  | _ => .int
abbrev wsJ70 : List Cond := u_ws RJ7 TJ7 0
theorem nmJ7 : ∀ a, a < 0 → ∀ b, b < 0 → a ≠ b → (TJ7 a).2.1 ≠ (TJ7 b).2.1 := by decide +kernel
theorem tyJ7_ok : ∀ k, k < 0 → parseFieldDescriptor (TJ7 k).2.2.1 = some (tyJ7 k) := by decide +kernel
abbrev cJ7_copyOf_1904c : ByteArray := prog_23_method_119_code
def yJ7_copyOf_1904c : MethodName := ⟨RJ7, "copyOf", "([Ljava/lang/Object;I)[Ljava/lang/Object;"⟩
abbrev cJ7_copyOf_6403c : ByteArray := prog_23_method_120_code
def yJ7_copyOf_6403c : MethodName := ⟨RJ7, "copyOf", "([Ljava/lang/Object;ILjava/lang/Class;)[Ljava/lang/Object;"⟩
def RJx5ef63 : String := "java/util/Collection"
def TJx5ef63 : u_T := fun k => match k with
  | _ => ("", "", "", false)
def tyJx5ef63 : Nat → FieldType := fun k => match k with
  | _ => .int
abbrev wsJx5ef630 : List Cond := u_ws RJx5ef63 TJx5ef63 0
theorem nmJx5ef63 : ∀ a, a < 0 → ∀ b, b < 0 → a ≠ b → (TJx5ef63 a).2.1 ≠ (TJx5ef63 b).2.1 := by decide +kernel
theorem tyJx5ef63_ok : ∀ k, k < 0 → parseFieldDescriptor (TJx5ef63 k).2.2.1 = some (tyJx5ef63 k) := by decide +kernel
def RJxbd725 : String := "java/util/List"
def TJxbd725 : u_T := fun k => match k with
  | _ => ("", "", "", false)
def tyJxbd725 : Nat → FieldType := fun k => match k with
  | _ => .int
abbrev wsJxbd7250 : List Cond := u_ws RJxbd725 TJxbd725 0
theorem nmJxbd725 : ∀ a, a < 0 → ∀ b, b < 0 → a ≠ b → (TJxbd725 a).2.1 ≠ (TJxbd725 b).2.1 := by decide +kernel
theorem tyJxbd725_ok : ∀ k, k < 0 → parseFieldDescriptor (TJxbd725 k).2.2.1 = some (tyJxbd725 k) := by decide +kernel
def RJ15 : String := "java/util/Objects"
def TJ15 : u_T := fun k => match k with
  | _ => ("", "", "", false)
def tyJ15 : Nat → FieldType := fun k => match k with
  | _ => .int
abbrev wsJ150 : List Cond := u_ws RJ15 TJ15 0
theorem nmJ15 : ∀ a, a < 0 → ∀ b, b < 0 → a ≠ b → (TJ15 a).2.1 ≠ (TJ15 b).2.1 := by decide +kernel
theorem tyJ15_ok : ∀ k, k < 0 → parseFieldDescriptor (TJ15 k).2.2.1 = some (tyJ15 k) := by decide +kernel
abbrev cJ15_checkIndex_7cf53 : ByteArray := prog_26_method_17_code
def yJ15_checkIndex_7cf53 : MethodName := ⟨RJ15, "checkIndex", "(II)I"⟩
def RJxf0a74 : String := "java/util/RandomAccess"
def TJxf0a74 : u_T := fun k => match k with
  | _ => ("", "", "", false)
def tyJxf0a74 : Nat → FieldType := fun k => match k with
  | _ => .int
abbrev wsJxf0a740 : List Cond := u_ws RJxf0a74 TJxf0a74 0
theorem nmJxf0a74 : ∀ a, a < 0 → ∀ b, b < 0 → a ≠ b → (TJxf0a74 a).2.1 ≠ (TJxf0a74 b).2.1 := by decide +kernel
theorem tyJxf0a74_ok : ∀ k, k < 0 → parseFieldDescriptor (TJxf0a74 k).2.2.1 = some (tyJxf0a74 k) := by decide +kernel
def RJxa66e6 : String := "java/util/SequencedCollection"
def TJxa66e6 : u_T := fun k => match k with
  | _ => ("", "", "", false)
def tyJxa66e6 : Nat → FieldType := fun k => match k with
  | _ => .int
abbrev wsJxa66e60 : List Cond := u_ws RJxa66e6 TJxa66e6 0
theorem nmJxa66e6 : ∀ a, a < 0 → ∀ b, b < 0 → a ≠ b → (TJxa66e6 a).2.1 ≠ (TJxa66e6 b).2.1 := by decide +kernel
theorem tyJxa66e6_ok : ∀ k, k < 0 → parseFieldDescriptor (TJxa66e6 k).2.2.1 = some (tyJxa66e6 k) := by decide +kernel
def RJ8 : String := "jdk/internal/util/ArraysSupport"
def TJ8 : u_T := fun k => match k with
  | _ => ("", "", "", false)
def tyJ8 : Nat → FieldType := fun k => match k with
  | _ => .int
abbrev wsJ80 : List Cond := u_ws RJ8 TJ8 0
theorem nmJ8 : ∀ a, a < 0 → ∀ b, b < 0 → a ≠ b → (TJ8 a).2.1 ≠ (TJ8 b).2.1 := by decide +kernel
theorem tyJ8_ok : ∀ k, k < 0 → parseFieldDescriptor (TJ8 k).2.2.1 = some (tyJ8 k) := by decide +kernel
abbrev cJ8_newLength_cabcc : ByteArray := prog_29_method_27_code
def yJ8_newLength_cabcc : MethodName := ⟨RJ8, "newLength", "(III)I"⟩
abbrev cJ8_hugeLength_7cf53 : ByteArray := prog_29_method_28_code
def yJ8_hugeLength_7cf53 : MethodName := ⟨RJ8, "hugeLength", "(II)I"⟩
def RJ3 : String := "jdk/internal/util/Preconditions"
def TJ3 : u_T := fun k => match k with
  | _ => ("", "", "", false)
def tyJ3 : Nat → FieldType := fun k => match k with
  | _ => .int
abbrev wsJ30 : List Cond := u_ws RJ3 TJ3 0
theorem nmJ3 : ∀ a, a < 0 → ∀ b, b < 0 → a ≠ b → (TJ3 a).2.1 ≠ (TJ3 b).2.1 := by decide +kernel
theorem tyJ3_ok : ∀ k, k < 0 → parseFieldDescriptor (TJ3 k).2.2.1 = some (tyJ3 k) := by decide +kernel
abbrev cJ3_checkIndex_8e157 : ByteArray := prog_30_method_11_code
def yJ3_checkIndex_8e157 : MethodName := ⟨RJ3, "checkIndex", "(IILjava/util/function/BiFunction;)I"⟩
def RL : String := "GasvaultLaw"
abbrev cL_draw : ByteArray := method_2_code
def yL_draw : MethodName := ⟨RL, "draw", "([II)I"⟩
abbrev cL_stores : ByteArray := method_3_code
def yL_stores : MethodName := ⟨RL, "stores", "(LGasvault;IIIIII)I"⟩
abbrev cL_comes : ByteArray := method_4_code
def yL_comes : MethodName := ⟨RL, "comes", "(LGasvault;IIII)I"⟩
abbrev cL_moves : ByteArray := method_5_code
def yL_moves : MethodName := ⟨RL, "moves", "(LGasvault;III)I"⟩
abbrev cL_leaches : ByteArray := method_6_code
def yL_leaches : MethodName := ⟨RL, "leaches", "(LGasvault;II)I"⟩
abbrev cL_laws : ByteArray := method_7_code
def yL_laws : MethodName := ⟨RL, "laws", "(LGasvault;III)I"⟩
abbrev cL_step : ByteArray := method_8_code
def yL_step : MethodName := ⟨RL, "step", "(LGasvault;[I[IIII)Z"⟩
abbrev cL_isTaken : ByteArray := method_9_code
def yL_isTaken : MethodName := ⟨RL, "isTaken", "(LGasvault;[III)Z"⟩
abbrev cL_areHours : ByteArray := method_10_code
def yL_areHours : MethodName := ⟨RL, "areHours", "(LGasvault;[I[II)Z"⟩
abbrev cL_areStores : ByteArray := method_11_code
def yL_areStores : MethodName := ⟨RL, "areStores", "(LGasvault;[I)Z"⟩
abbrev cL_law : ByteArray := code
def yL_law : MethodName := ⟨RL, "law", "([I)Z"⟩
abbrev vwCl : List vw_C := [(RJx4a65c, TJx4a65c, 3), (RX0, TX0, 12), (RX1, TX1, 1), (RX2, TX2, 3), (RX3, TX3, 11), (RX4, TX4, 11)]
