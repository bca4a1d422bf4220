def RX0 : String := "ArmTolls$Gear"
def TX0 : u_T := fun k => match k with
  | 0 => ("ArmTolls$Gear", "wears", "[I", true)
  | 1 => ("ArmTolls$Gear", "place", "I", false)
  | 2 => ("ArmTolls$Gear", "believed", "I", false)
  | 3 => ("ArmTolls$Gear", "load", "I", false)
  | 4 => ("ArmTolls$Gear", "way", "I", false)
  | 5 => ("ArmTolls$Gear", "slack", "I", false)
  | 6 => ("ArmTolls$Gear", "greased", "I", false)
  | 7 => ("ArmTolls$Gear", "steps", "I", false)
  | 8 => ("ArmTolls$Gear", "slips", "I", false)
  | 9 => ("ArmTolls$Gear", "tolls", "I", false)
  | 10 => ("ArmTolls$Gear", "turns", "I", false)
  | _ => ("ArmTolls$Gear", "homings", "I", false)
def tyX0 : Nat → FieldType := fun k => match k with
  | 0 => .array .int
  | 1 => .int
  | 2 => .int
  | 3 => .int
  | 4 => .int
  | 5 => .int
  | 6 => .int
  | 7 => .int
  | 8 => .int
  | 9 => .int
  | 10 => .int
  | _ => .int
theorem nmX0 : ∀ a, a < 12 → ∀ b, b < 12 → a ≠ b → (TX0 a).2.1 ≠ (TX0 b).2.1 := by decide +kernel
theorem tyX0_ok : ∀ k, k < 12 → parseFieldDescriptor (TX0 k).2.2.1 = some (tyX0 k) := by decide +kernel
abbrev cX0_init : ByteArray := prog_2_method_1_code
def yX0_init : MethodName := ⟨RX0, "<init>", "()V"⟩
abbrev cX0_nextPlace : ByteArray := prog_2_method_2_code
def yX0_nextPlace : MethodName := ⟨RX0, "nextPlace", "(II)I"⟩
abbrev cX0_toothBy : ByteArray := prog_2_method_3_code
def yX0_toothBy : MethodName := ⟨RX0, "toothBy", "(II)I"⟩
abbrev cX0_distance : ByteArray := prog_2_method_4_code
def yX0_distance : MethodName := ⟨RX0, "distance", "(II)I"⟩
abbrev cX0_wearOf : ByteArray := prog_2_method_5_code
def yX0_wearOf : MethodName := ⟨RX0, "wearOf", "(I)I"⟩
abbrev cX0_setWear : ByteArray := prog_2_method_6_code
def yX0_setWear : MethodName := ⟨RX0, "setWear", "(II)V"⟩
abbrev cX0_tollWith : ByteArray := prog_2_method_7_code
def yX0_tollWith : MethodName := ⟨RX0, "tollWith", "(IILArmTolls$Rules;)I"⟩
abbrev cX0_tollOfStep : ByteArray := prog_2_method_8_code
def yX0_tollOfStep : MethodName := ⟨RX0, "tollOfStep", "(ILArmTolls$Rules;)I"⟩
abbrev cX0_isTurn : ByteArray := prog_2_method_9_code
def yX0_isTurn : MethodName := ⟨RX0, "isTurn", "(I)Z"⟩
abbrev cX0_makeStep : ByteArray := prog_2_method_10_code
def yX0_makeStep : MethodName := ⟨RX0, "makeStep", "(IILArmTolls$Rules;)I"⟩
abbrev cX0_makeHomed : ByteArray := prog_2_method_11_code
def yX0_makeHomed : MethodName := ⟨RX0, "makeHomed", "(ILArmTolls$Rules;)I"⟩
abbrev cX0_costOfWay : ByteArray := prog_2_method_12_code
def yX0_costOfWay : MethodName := ⟨RX0, "costOfWay", "(IIILArmTolls$Rules;)I"⟩
abbrev cX0_property : ByteArray := prog_2_method_14_code
def yX0_property : MethodName := ⟨RX0, "property", "(I)I"⟩
abbrev cX0_copyFrom : ByteArray := prog_2_method_15_code
def yX0_copyFrom : MethodName := ⟨RX0, "copyFrom", "(LArmTolls$Gear;)V"⟩
def RX1 : String := "ArmTolls$History"
def TX1 : u_T := fun k => match k with
  | 0 => ("ArmTolls$History", "rows", "[LArmTolls$State;", true)
  | 1 => ("ArmTolls$History", "newest", "I", false)
  | _ => ("ArmTolls$History", "kept", "I", false)
def tyX1 : Nat → FieldType := fun k => match k with
  | 0 => .array (.object "ArmTolls$State")
  | 1 => .int
  | _ => .int
theorem nmX1 : ∀ a, a < 3 → ∀ b, b < 3 → a ≠ b → (TX1 a).2.1 ≠ (TX1 b).2.1 := by decide +kernel
theorem tyX1_ok : ∀ k, k < 3 → parseFieldDescriptor (TX1 k).2.2.1 = some (tyX1 k) := by decide +kernel
abbrev cX1_init : ByteArray := prog_3_method_1_code
def yX1_init : MethodName := ⟨RX1, "<init>", "()V"⟩
abbrev cX1_newestRow : ByteArray := prog_3_method_2_code
def yX1_newestRow : MethodName := ⟨RX1, "newestRow", "()LArmTolls$State;"⟩
abbrev cX1_save : ByteArray := prog_3_method_3_code
def yX1_save : MethodName := ⟨RX1, "save", "(LArmTolls$State;)V"⟩
def RX2 : String := "ArmTolls$Reader"
def TX2 : u_T := fun k => match k with
  | 0 => ("ArmTolls$Reader", "phase", "I", false)
  | 1 => ("ArmTolls$Reader", "axis", "I", false)
  | 2 => ("ArmTolls$Reader", "kind", "I", false)
  | _ => ("ArmTolls$Reader", "number", "I", false)
def tyX2 : Nat → FieldType := fun k => match k with
  | 0 => .int
  | 1 => .int
  | 2 => .int
  | _ => .int
theorem nmX2 : ∀ a, a < 4 → ∀ b, b < 4 → a ≠ b → (TX2 a).2.1 ≠ (TX2 b).2.1 := by decide +kernel
theorem tyX2_ok : ∀ k, k < 4 → parseFieldDescriptor (TX2 k).2.2.1 = some (tyX2 k) := by decide +kernel
abbrev cX2_init : ByteArray := prog_4_method_1_code
def yX2_init : MethodName := ⟨RX2, "<init>", "()V"⟩
def RX3 : String := "ArmTolls$Rules"
def TX3 : u_T := fun k => match k with
  | 0 => ("ArmTolls$Rules", "wearByStep", "I", false)
  | 1 => ("ArmTolls$Rules", "wearPerToll", "I", false)
  | 2 => ("ArmTolls$Rules", "wearThatSlips", "I", false)
  | 3 => ("ArmTolls$Rules", "mendingCost", "I", false)
  | 4 => ("ArmTolls$Rules", "greasedSteps", "I", false)
  | _ => ("ArmTolls$Rules", "greasingCost", "I", false)
def tyX3 : Nat → FieldType := fun k => match k with
  | 0 => .int
  | 1 => .int
  | 2 => .int
  | 3 => .int
  | 4 => .int
  | _ => .int
theorem nmX3 : ∀ a, a < 6 → ∀ b, b < 6 → a ≠ b → (TX3 a).2.1 ≠ (TX3 b).2.1 := by decide +kernel
theorem tyX3_ok : ∀ k, k < 6 → parseFieldDescriptor (TX3 k).2.2.1 = some (tyX3 k) := by decide +kernel
abbrev cX3_init : ByteArray := prog_5_method_1_code
def yX3_init : MethodName := ⟨RX3, "<init>", "()V"⟩
abbrev cX3_valueOf : ByteArray := prog_5_method_2_code
def yX3_valueOf : MethodName := ⟨RX3, "valueOf", "(I)I"⟩
abbrev cX3_put : ByteArray := prog_5_method_3_code
def yX3_put : MethodName := ⟨RX3, "put", "(II)V"⟩
abbrev cX3_copyFrom : ByteArray := prog_5_method_4_code
def yX3_copyFrom : MethodName := ⟨RX3, "copyFrom", "(LArmTolls$Rules;)V"⟩
def RX4 : String := "ArmTolls$State"
def TX4 : u_T := fun k => match k with
  | 0 => ("ArmTolls$State", "rules", "LArmTolls$Rules;", true)
  | 1 => ("ArmTolls$State", "gears", "[LArmTolls$Gear;", true)
  | 2 => ("ArmTolls$State", "purse", "I", false)
  | _ => ("ArmTolls$State", "careCosts", "I", false)
def tyX4 : Nat → FieldType := fun k => match k with
  | 0 => .object "ArmTolls$Rules"
  | 1 => .array (.object "ArmTolls$Gear")
  | 2 => .int
  | _ => .int
theorem nmX4 : ∀ a, a < 4 → ∀ b, b < 4 → a ≠ b → (TX4 a).2.1 ≠ (TX4 b).2.1 := by decide +kernel
theorem tyX4_ok : ∀ k, k < 4 → parseFieldDescriptor (TX4 k).2.2.1 = some (tyX4 k) := by decide +kernel
abbrev cX4_init : ByteArray := prog_6_method_1_code
def yX4_init : MethodName := ⟨RX4, "<init>", "()V"⟩
abbrev cX4_gearAt : ByteArray := prog_6_method_2_code
def yX4_gearAt : MethodName := ⟨RX4, "gearAt", "(I)LArmTolls$Gear;"⟩
abbrev cX4_payCare : ByteArray := prog_6_method_3_code
def yX4_payCare : MethodName := ⟨RX4, "payCare", "(I)V"⟩
abbrev cX4_sumOf : ByteArray := prog_6_method_4_code
def yX4_sumOf : MethodName := ⟨RX4, "sumOf", "(I)I"⟩
abbrev cX4_wearOfAll : ByteArray := prog_6_method_5_code
def yX4_wearOfAll : MethodName := ⟨RX4, "wearOfAll", "()I"⟩
abbrev cX4_teethWornTo : ByteArray := prog_6_method_6_code
def yX4_teethWornTo : MethodName := ⟨RX4, "teethWornTo", "(I)I"⟩
abbrev cX4_axesWhereBelieved : ByteArray := prog_6_method_7_code
def yX4_axesWhereBelieved : MethodName := ⟨RX4, "axesWhereBelieved", "()I"⟩
abbrev cX4_copyFrom : ByteArray := prog_6_method_8_code
def yX4_copyFrom : MethodName := ⟨RX4, "copyFrom", "(LArmTolls$State;)V"⟩
def RX5 : String := "ArmTolls"
def TX5 : u_T := fun k => match k with
  | 0 => ("ArmTolls", "now", "LArmTolls$State;", true)
  | 1 => ("ArmTolls", "history", "LArmTolls$History;", true)
  | 2 => ("ArmTolls", "trial", "LArmTolls$Gear;", true)
  | 3 => ("ArmTolls", "reader", "LArmTolls$Reader;", true)
  | 4 => ("ArmTolls", "buffer", "[I", true)
  | _ => ("ArmTolls", "length", "I", false)
def tyX5 : Nat → FieldType := fun k => match k with
  | 0 => .object "ArmTolls$State"
  | 1 => .object "ArmTolls$History"
  | 2 => .object "ArmTolls$Gear"
  | 3 => .object "ArmTolls$Reader"
  | 4 => .array .int
  | _ => .int
theorem nmX5 : ∀ a, a < 6 → ∀ b, b < 6 → a ≠ b → (TX5 a).2.1 ≠ (TX5 b).2.1 := by decide +kernel
theorem tyX5_ok : ∀ k, k < 6 → parseFieldDescriptor (TX5 k).2.2.1 = some (tyX5 k) := by decide +kernel
abbrev cX5_init : ByteArray := prog_1_method_1_code
def yX5_init : MethodName := ⟨RX5, "<init>", "()V"⟩
abbrev cX5_earn : ByteArray := prog_1_method_2_code
def yX5_earn : MethodName := ⟨RX5, "earn", "(I)I"⟩
abbrev cX5_load : ByteArray := prog_1_method_3_code
def yX5_load : MethodName := ⟨RX5, "load", "(II)I"⟩
abbrev cX5_set : ByteArray := prog_1_method_4_code
def yX5_set : MethodName := ⟨RX5, "set", "(II)I"⟩
abbrev cX5_step : ByteArray := prog_1_method_5_code
def yX5_step : MethodName := ⟨RX5, "step", "(II)I"⟩
abbrev cX5_go : ByteArray := prog_1_method_6_code
def yX5_go : MethodName := ⟨RX5, "go", "(II)I"⟩
abbrev cX5_home : ByteArray := prog_1_method_7_code
def yX5_home : MethodName := ⟨RX5, "home", "(I)I"⟩
abbrev cX5_grease : ByteArray := prog_1_method_8_code
def yX5_grease : MethodName := ⟨RX5, "grease", "(I)I"⟩
abbrev cX5_mend : ByteArray := prog_1_method_9_code
def yX5_mend : MethodName := ⟨RX5, "mend", "(II)I"⟩
abbrev cX5_axis : ByteArray := prog_1_method_15_code
def yX5_axis : MethodName := ⟨RX5, "axis", "(II)I"⟩
abbrev cX5_wear : ByteArray := prog_1_method_16_code
def yX5_wear : MethodName := ⟨RX5, "wear", "(II)I"⟩
abbrev cX5_count : ByteArray := prog_1_method_17_code
def yX5_count : MethodName := ⟨RX5, "count", "(I)I"⟩
abbrev cX5_cost : ByteArray := prog_1_method_21_code
def yX5_cost : MethodName := ⟨RX5, "cost", "(IIZ)I"⟩
abbrev cX5_ifHomed : ByteArray := prog_1_method_22_code
def yX5_ifHomed : MethodName := ⟨RX5, "ifHomed", "(II)I"⟩
abbrev cX5_gearOf : ByteArray := prog_1_method_28_code
def yX5_gearOf : MethodName := ⟨RX5, "gearOf", "(I)LArmTolls$Gear;"⟩
abbrev cX5_checkSetting : ByteArray := prog_1_method_29_code
def yX5_checkSetting : MethodName := ⟨RX5, "checkSetting", "(I)V"⟩
abbrev cX5_checkTooth : ByteArray := prog_1_method_30_code
def yX5_checkTooth : MethodName := ⟨RX5, "checkTooth", "(I)V"⟩
abbrev cX5_checkPlace : ByteArray := prog_1_method_31_code
def yX5_checkPlace : MethodName := ⟨RX5, "checkPlace", "(I)V"⟩
abbrev cX5_isValueOf : ByteArray := prog_1_method_32_code
def yX5_isValueOf : MethodName := ⟨RX5, "isValueOf", "(II)Z"⟩
abbrev cX5_wayOf : ByteArray := prog_1_method_33_code
def yX5_wayOf : MethodName := ⟨RX5, "wayOf", "(Z)I"⟩
abbrev cX5_canStep : ByteArray := prog_1_method_34_code
def yX5_canStep : MethodName := ⟨RX5, "canStep", "(LArmTolls$Gear;I)Z"⟩
abbrev cX5_canGo : ByteArray := prog_1_method_35_code
def yX5_canGo : MethodName := ⟨RX5, "canGo", "(LArmTolls$Gear;I)Z"⟩
abbrev cX5_canGrease : ByteArray := prog_1_method_36_code
def yX5_canGrease : MethodName := ⟨RX5, "canGrease", "()Z"⟩
abbrev cX5_makeSteps : ByteArray := prog_1_method_37_code
def yX5_makeSteps : MethodName := ⟨RX5, "makeSteps", "(LArmTolls$Gear;II)I"⟩
abbrev cX5_goTo : ByteArray := prog_1_method_38_code
def yX5_goTo : MethodName := ⟨RX5, "goTo", "(LArmTolls$Gear;I)I"⟩
abbrev cX5_makeHomed : ByteArray := prog_1_method_39_code
def yX5_makeHomed : MethodName := ⟨RX5, "makeHomed", "(LArmTolls$Gear;)Z"⟩
abbrev cX5_makeGreased : ByteArray := prog_1_method_40_code
def yX5_makeGreased : MethodName := ⟨RX5, "makeGreased", "(LArmTolls$Gear;)V"⟩
abbrev cX5_cheaperWay : ByteArray := prog_1_method_41_code
def yX5_cheaperWay : MethodName := ⟨RX5, "cheaperWay", "(LArmTolls$Gear;I)I"⟩
abbrev cX5_countOf : ByteArray := prog_1_method_47_code
def yX5_countOf : MethodName := ⟨RX5, "countOf", "(I)I"⟩
abbrev cX5_homingFact : ByteArray := prog_1_method_49_code
def yX5_homingFact : MethodName := ⟨RX5, "homingFact", "(LArmTolls$Gear;I)I"⟩
def RX6 : String := "ArmTollsModel"
def TX6 : u_T := fun k => match k with
  | _ => ("", "", "", false)
def tyX6 : Nat → FieldType := fun k => match k with
  | _ => .int
theorem nmX6 : ∀ a, a < 0 → ∀ b, b < 0 → a ≠ b → (TX6 a).2.1 ≠ (TX6 b).2.1 := by decide +kernel
theorem tyX6_ok : ∀ k, k < 0 → parseFieldDescriptor (TX6 k).2.2.1 = some (tyX6 k) := by decide +kernel
def RJ9 : String := "java/lang/Math"
def TJ9 : u_T := fun k => match k with
  | _ => ("", "", "", false)
def tyJ9 : Nat → FieldType := fun k => match k with
  | _ => .int
theorem nmJ9 : ∀ a, a < 0 → ∀ b, b < 0 → a ≠ b → (TJ9 a).2.1 ≠ (TJ9 b).2.1 := by decide +kernel
theorem tyJ9_ok : ∀ k, k < 0 → parseFieldDescriptor (TJ9 k).2.2.1 = some (tyJ9 k) := by decide +kernel
abbrev cJ9_floorMod_7cf53 : ByteArray := prog_13_method_50_code
def yJ9_floorMod_7cf53 : MethodName := ⟨RJ9, "floorMod", "(II)I"⟩
abbrev cJ9_max_7cf53 : ByteArray := prog_13_method_65_code
def yJ9_max_7cf53 : MethodName := ⟨RJ9, "max", "(II)I"⟩
abbrev cJ9_min_7cf53 : ByteArray := prog_13_method_69_code
def yJ9_min_7cf53 : MethodName := ⟨RJ9, "min", "(II)I"⟩
def RJ0 : String := "java/lang/String"
def TJ0 : u_T := fun k => match k with
  | _ => ("", "", "", false)
def tyJ0 : Nat → FieldType := fun k => match k with
  | _ => .int
theorem nmJ0 : ∀ a, a < 0 → ∀ b, b < 0 → a ≠ b → (TJ0 a).2.1 ≠ (TJ0 b).2.1 := by decide +kernel
theorem tyJ0_ok : ∀ k, k < 0 → parseFieldDescriptor (TJ0 k).2.2.1 = some (tyJ0 k) := by decide +kernel
def RJ10 : String := "java/lang/System"
def TJ10 : u_T := fun k => match k with
  | _ => ("", "", "", false)
def tyJ10 : Nat → FieldType := fun k => match k with
  | _ => .int
theorem nmJ10 : ∀ a, a < 0 → ∀ b, b < 0 → a ≠ b → (TJ10 a).2.1 ≠ (TJ10 b).2.1 := by decide +kernel
theorem tyJ10_ok : ∀ k, k < 0 → parseFieldDescriptor (TJ10 k).2.2.1 = some (tyJ10 k) := by decide +kernel
def RL : String := "ArmTollsLaw"
abbrev cL_cell : ByteArray := method_2_code
def yL_cell : MethodName := ⟨RL, "cell", "([II)I"⟩
abbrev cL_at : ByteArray := method_3_code
def yL_at : MethodName := ⟨RL, "at", "(II)I"⟩
abbrev cL_tooth : ByteArray := method_4_code
def yL_tooth : MethodName := ⟨RL, "tooth", "(II)I"⟩
abbrev cL_go : ByteArray := method_5_code
def yL_go : MethodName := ⟨RL, "go", "(II)I"⟩
abbrev cL_wear : ByteArray := method_6_code
def yL_wear : MethodName := ⟨RL, "wear", "([I[III)I"⟩
abbrev cL_setWear : ByteArray := method_7_code
def yL_setWear : MethodName := ⟨RL, "setWear", "([I[IIII)V"⟩
abbrev cL_toll : ByteArray := method_8_code
def yL_toll : MethodName := ⟨RL, "toll", "([IIIZ)I"⟩
abbrev cL_step : ByteArray := method_9_code
def yL_step : MethodName := ⟨RL, "step", "([I[I[I[I[I[I[I[I[I[III)Z"⟩
abbrev cL_cost : ByteArray := method_10_code
def yL_cost : MethodName := ⟨RL, "cost", "([I[I[I[I[I[IIIII)I"⟩
abbrev cL_moves : ByteArray := method_11_code
def yL_moves : MethodName := ⟨RL, "moves", "(LArmTolls;II[I[I[I[I[I[I[I[I[I[I)Z"⟩
abbrev cL_cares : ByteArray := method_12_code
def yL_cares : MethodName := ⟨RL, "cares", "(LArmTolls;II[I[I[I[I[I)Z"⟩
abbrev cL_agree : ByteArray := method_13_code
def yL_agree : MethodName := ⟨RL, "agree", "(LArmTolls;[I[I[I[I[I[I[I[I[I[I)Z"⟩
abbrev cL_law : ByteArray := code
def yL_law : MethodName := ⟨RL, "law", "([I)Z"⟩
abbrev vwCl : List vw_C := [(RX0, TX0, 12), (RX1, TX1, 3), (RX2, TX2, 4), (RX3, TX3, 6), (RX4, TX4, 4), (RX5, TX5, 6)]
