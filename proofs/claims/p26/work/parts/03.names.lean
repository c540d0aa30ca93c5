def RX0 : String := "StrengthLayout$Bounds"
def TX0 : u_T := fun k => match k with
  | _ => ("StrengthLayout$Bounds", "greatest", "[[I", true)
def tyX0 : Nat → FieldType := fun k => match k with
  | _ => .array (.array .int)
theorem nmX0 : ∀ a, a < 1 → ∀ b, b < 1 → a ≠ b → (TX0 a).2.1 ≠ (TX0 b).2.1 := by decide +kernel
theorem tyX0_ok : ∀ k, k < 1 → parseFieldDescriptor (TX0 k).2.2.1 = some (tyX0 k) := by decide +kernel
abbrev cX0_init : ByteArray := prog_2_method_1_code
def yX0_init : MethodName := ⟨RX0, "<init>", "()V"⟩
abbrev cX0_open : ByteArray := prog_2_method_2_code
def yX0_open : MethodName := ⟨RX0, "open", "()V"⟩
abbrev cX0_copyFrom : ByteArray := prog_2_method_3_code
def yX0_copyFrom : MethodName := ⟨RX0, "copyFrom", "(LStrengthLayout$Bounds;)V"⟩
abbrev cX0_greatest : ByteArray := prog_2_method_4_code
def yX0_greatest : MethodName := ⟨RX0, "greatest", "(II)I"⟩
abbrev cX0_least : ByteArray := prog_2_method_5_code
def yX0_least : MethodName := ⟨RX0, "least", "(II)I"⟩
abbrev cX0_width : ByteArray := prog_2_method_6_code
def yX0_width : MethodName := ⟨RX0, "width", "(I)I"⟩
abbrev cX0_limit : ByteArray := prog_2_method_7_code
def yX0_limit : MethodName := ⟨RX0, "limit", "(III)V"⟩
def RX1 : String := "StrengthLayout$Filling"
def TX1 : u_T := fun k => match k with
  | 0 => ("StrengthLayout$Filling", "bounds", "LStrengthLayout$Bounds;", true)
  | 1 => ("StrengthLayout$Filling", "ofConditions", "LStrengthLayout$Outcome;", true)
  | 2 => ("StrengthLayout$Filling", "ofEdits", "LStrengthLayout$Outcome;", true)
  | 3 => ("StrengthLayout$Filling", "rest", "LStrengthLayout$Bounds;", true)
  | _ => ("StrengthLayout$Filling", "turns", "I", false)
def tyX1 : Nat → FieldType := fun k => match k with
  | 0 => .object "StrengthLayout$Bounds"
  | 1 => .object "StrengthLayout$Outcome"
  | 2 => .object "StrengthLayout$Outcome"
  | 3 => .object "StrengthLayout$Bounds"
  | _ => .int
theorem nmX1 : ∀ a, a < 5 → ∀ b, b < 5 → a ≠ b → (TX1 a).2.1 ≠ (TX1 b).2.1 := by decide +kernel
theorem tyX1_ok : ∀ k, k < 5 → parseFieldDescriptor (TX1 k).2.2.1 = some (tyX1 k) := by decide +kernel
abbrev cX1_init : ByteArray := prog_3_method_1_code
def yX1_init : MethodName := ⟨RX1, "<init>", "()V"⟩
abbrev cX1_fill : ByteArray := prog_3_method_2_code
def yX1_fill : MethodName := ⟨RX1, "fill", "(LStrengthLayout$Layout;I)V"⟩
abbrev cX1_fillOne : ByteArray := prog_3_method_3_code
def yX1_fillOne : MethodName := ⟨RX1, "fillOne", "(LStrengthLayout$Rules;ILStrengthLayout$Outcome;)V"⟩
abbrev cX1_settle : ByteArray := prog_3_method_4_code
def yX1_settle : MethodName := ⟨RX1, "settle", "(LStrengthLayout$Layout;)V"⟩
abbrev cX1_settleOne : ByteArray := prog_3_method_5_code
def yX1_settleOne : MethodName := ⟨RX1, "settleOne", "(LStrengthLayout$Layout;I)V"⟩
def RX2 : String := "StrengthLayout$History"
def TX2 : u_T := fun k => match k with
  | 0 => ("StrengthLayout$History", "saved", "[LStrengthLayout$Layout;", true)
  | 1 => ("StrengthLayout$History", "next", "I", false)
  | _ => ("StrengthLayout$History", "size", "I", false)
def tyX2 : Nat → FieldType := fun k => match k with
  | 0 => .array (.object "StrengthLayout$Layout")
  | 1 => .int
  | _ => .int
theorem nmX2 : ∀ a, a < 3 → ∀ b, b < 3 → a ≠ b → (TX2 a).2.1 ≠ (TX2 b).2.1 := by decide +kernel
theorem tyX2_ok : ∀ k, k < 3 → parseFieldDescriptor (TX2 k).2.2.1 = some (tyX2 k) := by decide +kernel
abbrev cX2_init : ByteArray := prog_4_method_1_code
def yX2_init : MethodName := ⟨RX2, "<init>", "()V"⟩
abbrev cX2_save : ByteArray := prog_4_method_2_code
def yX2_save : MethodName := ⟨RX2, "save", "(LStrengthLayout$Layout;)V"⟩
def RX3 : String := "StrengthLayout$Layout"
def TX3 : u_T := fun k => match k with
  | 0 => ("StrengthLayout$Layout", "values", "[I", true)
  | 1 => ("StrengthLayout$Layout", "stays", "[I", true)
  | 2 => ("StrengthLayout$Layout", "conditions", "LStrengthLayout$Rules;", true)
  | _ => ("StrengthLayout$Layout", "edits", "LStrengthLayout$Rules;", true)
def tyX3 : Nat → FieldType := fun k => match k with
  | 0 => .array .int
  | 1 => .array .int
  | 2 => .object "StrengthLayout$Rules"
  | _ => .object "StrengthLayout$Rules"
theorem nmX3 : ∀ a, a < 4 → ∀ b, b < 4 → a ≠ b → (TX3 a).2.1 ≠ (TX3 b).2.1 := by decide +kernel
theorem tyX3_ok : ∀ k, k < 4 → parseFieldDescriptor (TX3 k).2.2.1 = some (tyX3 k) := by decide +kernel
abbrev cX3_init : ByteArray := prog_5_method_1_code
def yX3_init : MethodName := ⟨RX3, "<init>", "()V"⟩
abbrev cX3_copyFrom : ByteArray := prog_5_method_2_code
def yX3_copyFrom : MethodName := ⟨RX3, "copyFrom", "(LStrengthLayout$Layout;)V"⟩
abbrev cX3_editOf : ByteArray := prog_5_method_3_code
def yX3_editOf : MethodName := ⟨RX3, "editOf", "(I)I"⟩
abbrev cX3_wishFor : ByteArray := prog_5_method_4_code
def yX3_wishFor : MethodName := ⟨RX3, "wishFor", "(III)V"⟩
abbrev cX3_holds : ByteArray := prog_5_method_5_code
def yX3_holds : MethodName := ⟨RX3, "holds", "(I)Z"⟩
def RX4 : String := "StrengthLayout$Outcome"
def TX4 : u_T := fun k => match k with
  | 0 => ("StrengthLayout$Outcome", "filled", "I", false)
  | 1 => ("StrengthLayout$Outcome", "margin", "[I", true)
  | _ => ("StrengthLayout$Outcome", "turn", "[I", true)
def tyX4 : Nat → FieldType := fun k => match k with
  | 0 => .int
  | 1 => .array .int
  | _ => .array .int
theorem nmX4 : ∀ a, a < 3 → ∀ b, b < 3 → a ≠ b → (TX4 a).2.1 ≠ (TX4 b).2.1 := by decide +kernel
theorem tyX4_ok : ∀ k, k < 3 → parseFieldDescriptor (TX4 k).2.2.1 = some (tyX4 k) := by decide +kernel
abbrev cX4_init : ByteArray := prog_6_method_1_code
def yX4_init : MethodName := ⟨RX4, "<init>", "()V"⟩
abbrev cX4_filledOne : ByteArray := prog_6_method_2_code
def yX4_filledOne : MethodName := ⟨RX4, "filledOne", "(I)I"⟩
def RX5 : String := "StrengthLayout$Rules"
def TX5 : u_T := fun k => match k with
  | 0 => ("StrengthLayout$Rules", "left", "[I", true)
  | 1 => ("StrengthLayout$Rules", "right", "[I", true)
  | 2 => ("StrengthLayout$Rules", "sign", "[I", true)
  | 3 => ("StrengthLayout$Rules", "number", "[I", true)
  | 4 => ("StrengthLayout$Rules", "strength", "[I", true)
  | _ => ("StrengthLayout$Rules", "size", "I", false)
def tyX5 : Nat → FieldType := fun k => match k with
  | 0 => .array .int
  | 1 => .array .int
  | 2 => .array .int
  | 3 => .array .int
  | 4 => .array .int
  | _ => .int
theorem nmX5 : ∀ a, a < 6 → ∀ b, b < 6 → a ≠ b → (TX5 a).2.1 ≠ (TX5 b).2.1 := by decide +kernel
theorem tyX5_ok : ∀ k, k < 6 → parseFieldDescriptor (TX5 k).2.2.1 = some (tyX5 k) := by decide +kernel
abbrev cX5_init : ByteArray := prog_7_method_1_code
def yX5_init : MethodName := ⟨RX5, "<init>", "()V"⟩
abbrev cX5_push : ByteArray := prog_7_method_2_code
def yX5_push : MethodName := ⟨RX5, "push", "(IIIII)V"⟩
abbrev cX5_pushRowOf : ByteArray := prog_7_method_3_code
def yX5_pushRowOf : MethodName := ⟨RX5, "pushRowOf", "(LStrengthLayout$Rules;I)V"⟩
abbrev cX5_drop : ByteArray := prog_7_method_4_code
def yX5_drop : MethodName := ⟨RX5, "drop", "(I)V"⟩
abbrev cX5_copyFrom : ByteArray := prog_7_method_5_code
def yX5_copyFrom : MethodName := ⟨RX5, "copyFrom", "(LStrengthLayout$Rules;)V"⟩
abbrev cX5_rowsWith : ByteArray := prog_7_method_6_code
def yX5_rowsWith : MethodName := ⟨RX5, "rowsWith", "(I)I"⟩
abbrev cX5_rightNode : ByteArray := prog_7_method_7_code
def yX5_rightNode : MethodName := ⟨RX5, "rightNode", "(I)I"⟩
abbrev cX5_canHold : ByteArray := prog_7_method_8_code
def yX5_canHold : MethodName := ⟨RX5, "canHold", "(III)Z"⟩
abbrev cX5_narrowing : ByteArray := prog_7_method_9_code
def yX5_narrowing : MethodName := ⟨RX5, "narrowing", "(III)I"⟩
abbrev cX5_missing : ByteArray := prog_7_method_10_code
def yX5_missing : MethodName := ⟨RX5, "missing", "(III)I"⟩
def RX6 : String := "StrengthLayout$TextReader"
def TX6 : u_T := fun k => match k with
  | 0 => ("StrengthLayout$TextReader", "read", "LStrengthLayout$Rules;", true)
  | 1 => ("StrengthLayout$TextReader", "awaited", "I", false)
  | 2 => ("StrengthLayout$TextReader", "left", "I", false)
  | 3 => ("StrengthLayout$TextReader", "right", "I", false)
  | 4 => ("StrengthLayout$TextReader", "sign", "I", false)
  | 5 => ("StrengthLayout$TextReader", "number", "I", false)
  | 6 => ("StrengthLayout$TextReader", "factor", "I", false)
  | _ => ("StrengthLayout$TextReader", "strength", "I", false)
def tyX6 : Nat → FieldType := fun k => match k with
  | 0 => .object "StrengthLayout$Rules"
  | 1 => .int
  | 2 => .int
  | 3 => .int
  | 4 => .int
  | 5 => .int
  | 6 => .int
  | _ => .int
theorem nmX6 : ∀ a, a < 8 → ∀ b, b < 8 → a ≠ b → (TX6 a).2.1 ≠ (TX6 b).2.1 := by decide +kernel
theorem tyX6_ok : ∀ k, k < 8 → parseFieldDescriptor (TX6 k).2.2.1 = some (tyX6 k) := by decide +kernel
abbrev cX6_init : ByteArray := prog_8_method_1_code
def yX6_init : MethodName := ⟨RX6, "<init>", "()V"⟩
def RX7 : String := "StrengthLayout"
def TX7 : u_T := fun k => match k with
  | 0 => ("StrengthLayout", "now", "LStrengthLayout$Layout;", true)
  | 1 => ("StrengthLayout", "filling", "LStrengthLayout$Filling;", true)
  | 2 => ("StrengthLayout", "history", "LStrengthLayout$History;", true)
  | 3 => ("StrengthLayout", "trial", "LStrengthLayout$Layout;", true)
  | 4 => ("StrengthLayout", "trialFilling", "LStrengthLayout$Filling;", true)
  | 5 => ("StrengthLayout", "filledWithout", "[I", true)
  | 6 => ("StrengthLayout", "knowsWithout", "Z", false)
  | 7 => ("StrengthLayout", "buffer", "[I", true)
  | 8 => ("StrengthLayout", "length", "I", false)
  | _ => ("StrengthLayout", "reader", "LStrengthLayout$TextReader;", true)
def tyX7 : Nat → FieldType := fun k => match k with
  | 0 => .object "StrengthLayout$Layout"
  | 1 => .object "StrengthLayout$Filling"
  | 2 => .object "StrengthLayout$History"
  | 3 => .object "StrengthLayout$Layout"
  | 4 => .object "StrengthLayout$Filling"
  | 5 => .array .int
  | 6 => .boolean
  | 7 => .array .int
  | 8 => .int
  | _ => .object "StrengthLayout$TextReader"
theorem nmX7 : ∀ a, a < 10 → ∀ b, b < 10 → a ≠ b → (TX7 a).2.1 ≠ (TX7 b).2.1 := by decide +kernel
theorem tyX7_ok : ∀ k, k < 10 → parseFieldDescriptor (TX7 k).2.2.1 = some (tyX7 k) := by decide +kernel
abbrev cX7_init : ByteArray := prog_1_method_1_code
def yX7_init : MethodName := ⟨RX7, "<init>", "()V"⟩
abbrev cX7_add : ByteArray := prog_1_method_2_code
def yX7_add : MethodName := ⟨RX7, "add", "(IIIII)I"⟩
abbrev cX7_remove : ByteArray := prog_1_method_3_code
def yX7_remove : MethodName := ⟨RX7, "remove", "(I)I"⟩
abbrev cX7_setStrength : ByteArray := prog_1_method_4_code
def yX7_setStrength : MethodName := ⟨RX7, "setStrength", "(II)I"⟩
abbrev cX7_setNumber : ByteArray := prog_1_method_5_code
def yX7_setNumber : MethodName := ⟨RX7, "setNumber", "(II)I"⟩
abbrev cX7_setStay : ByteArray := prog_1_method_6_code
def yX7_setStay : MethodName := ⟨RX7, "setStay", "(II)I"⟩
abbrev cX7_edit : ByteArray := prog_1_method_7_code
def yX7_edit : MethodName := ⟨RX7, "edit", "(III)I"⟩
abbrev cX7_endEdits : ByteArray := prog_1_method_8_code
def yX7_endEdits : MethodName := ⟨RX7, "endEdits", "()I"⟩
abbrev cX7_settleFrom : ByteArray := prog_1_method_9_code
def yX7_settleFrom : MethodName := ⟨RX7, "settleFrom", "(I)I"⟩
abbrev cX7_place : ByteArray := prog_1_method_15_code
def yX7_place : MethodName := ⟨RX7, "place", "(II)I"⟩
abbrev cX7_condition : ByteArray := prog_1_method_16_code
def yX7_condition : MethodName := ⟨RX7, "condition", "(II)I"⟩
abbrev cX7_edited : ByteArray := prog_1_method_17_code
def yX7_edited : MethodName := ⟨RX7, "edited", "(II)I"⟩
abbrev cX7_widest : ByteArray := prog_1_method_18_code
def yX7_widest : MethodName := ⟨RX7, "widest", "(II)I"⟩
abbrev cX7_count : ByteArray := prog_1_method_19_code
def yX7_count : MethodName := ⟨RX7, "count", "(I)I"⟩
abbrev cX7_ifEdited : ByteArray := prog_1_method_20_code
def yX7_ifEdited : MethodName := ⟨RX7, "ifEdited", "(IIII)I"⟩
abbrev cX7_ifRemoved : ByteArray := prog_1_method_21_code
def yX7_ifRemoved : MethodName := ⟨RX7, "ifRemoved", "(I)I"⟩
abbrev cX7_neededStrength : ByteArray := prog_1_method_22_code
def yX7_neededStrength : MethodName := ⟨RX7, "neededStrength", "(I)I"⟩
abbrev cX7_freedom : ByteArray := prog_1_method_23_code
def yX7_freedom : MethodName := ⟨RX7, "freedom", "()F"⟩
abbrev cX7_needIndex : ByteArray := prog_1_method_25_code
def yX7_needIndex : MethodName := ⟨RX7, "needIndex", "(Z)V"⟩
abbrev cX7_needArgument : ByteArray := prog_1_method_26_code
def yX7_needArgument : MethodName := ⟨RX7, "needArgument", "(Z)V"⟩
abbrev cX7_needState : ByteArray := prog_1_method_27_code
def yX7_needState : MethodName := ⟨RX7, "needState", "(Z)V"⟩
abbrev cX7_isWithin : ByteArray := prog_1_method_28_code
def yX7_isWithin : MethodName := ⟨RX7, "isWithin", "(III)Z"⟩
abbrev cX7_isPlace : ByteArray := prog_1_method_29_code
def yX7_isPlace : MethodName := ⟨RX7, "isPlace", "(I)Z"⟩
abbrev cX7_isValue : ByteArray := prog_1_method_30_code
def yX7_isValue : MethodName := ⟨RX7, "isValue", "(I)Z"⟩
abbrev cX7_isNumber : ByteArray := prog_1_method_31_code
def yX7_isNumber : MethodName := ⟨RX7, "isNumber", "(I)Z"⟩
abbrev cX7_isStrength : ByteArray := prog_1_method_32_code
def yX7_isStrength : MethodName := ⟨RX7, "isStrength", "(I)Z"⟩
abbrev cX7_isCondition : ByteArray := prog_1_method_33_code
def yX7_isCondition : MethodName := ⟨RX7, "isCondition", "(I)Z"⟩
abbrev cX7_change : ByteArray := prog_1_method_34_code
def yX7_change : MethodName := ⟨RX7, "change", "([III)I"⟩
abbrev cX7_fillAndSettle : ByteArray := prog_1_method_35_code
def yX7_fillAndSettle : MethodName := ⟨RX7, "fillAndSettle", "()V"⟩
abbrev cX7_fillAnew : ByteArray := prog_1_method_36_code
def yX7_fillAnew : MethodName := ⟨RX7, "fillAnew", "()V"⟩
abbrev cX7_knowWithout : ByteArray := prog_1_method_37_code
def yX7_knowWithout : MethodName := ⟨RX7, "knowWithout", "()V"⟩
abbrev cX7_placeProperty : ByteArray := prog_1_method_39_code
def yX7_placeProperty : MethodName := ⟨RX7, "placeProperty", "(II)I"⟩
abbrev cX7_conditionProperty : ByteArray := prog_1_method_40_code
def yX7_conditionProperty : MethodName := ⟨RX7, "conditionProperty", "(II)I"⟩
abbrev cX7_editProperty : ByteArray := prog_1_method_41_code
def yX7_editProperty : MethodName := ⟨RX7, "editProperty", "(II)I"⟩
abbrev cX7_countOf : ByteArray := prog_1_method_42_code
def yX7_countOf : MethodName := ⟨RX7, "countOf", "(I)I"⟩
abbrev cX7_fixedPlaces : ByteArray := prog_1_method_43_code
def yX7_fixedPlaces : MethodName := ⟨RX7, "fixedPlaces", "()I"⟩
abbrev cX7_conditionsThatHold : ByteArray := prog_1_method_44_code
def yX7_conditionsThatHold : MethodName := ⟨RX7, "conditionsThatHold", "()I"⟩
abbrev cX7_sumOfValues : ByteArray := prog_1_method_45_code
def yX7_sumOfValues : MethodName := ⟨RX7, "sumOfValues", "()I"⟩
abbrev cX7_placesNotAt : ByteArray := prog_1_method_46_code
def yX7_placesNotAt : MethodName := ⟨RX7, "placesNotAt", "(I)I"⟩
abbrev cX7_culpritsOf : ByteArray := prog_1_method_47_code
def yX7_culpritsOf : MethodName := ⟨RX7, "culpritsOf", "(I)I"⟩
abbrev cX7_leastFillingStrength : ByteArray := prog_1_method_48_code
def yX7_leastFillingStrength : MethodName := ⟨RX7, "leastFillingStrength", "(I)I"⟩
def RX8 : String := "StrengthLayoutModel"
def TX8 : u_T := fun k => match k with
  | _ => ("", "", "", false)
def tyX8 : Nat → FieldType := fun k => match k with
  | _ => .int
theorem nmX8 : ∀ a, a < 0 → ∀ b, b < 0 → a ≠ b → (TX8 a).2.1 ≠ (TX8 b).2.1 := by decide +kernel
theorem tyX8_ok : ∀ k, k < 0 → parseFieldDescriptor (TX8 k).2.2.1 = some (tyX8 k) := by decide +kernel
def RJ6 : String := "java/lang/Integer"
def TJ6 : u_T := fun k => match k with
  | _ => ("", "", "", false)
def tyJ6 : Nat → FieldType := fun k => match k with
  | _ => .int
theorem nmJ6 : ∀ a, a < 0 → ∀ b, b < 0 → a ≠ b → (TJ6 a).2.1 ≠ (TJ6 b).2.1 := by decide +kernel
theorem tyJ6_ok : ∀ k, k < 0 → parseFieldDescriptor (TJ6 k).2.2.1 = some (tyJ6 k) := by decide +kernel
abbrev cJ6_bitCount_0f7a4 : ByteArray := prog_15_method_49_code
def yJ6_bitCount_0f7a4 : MethodName := ⟨RJ6, "bitCount", "(I)I"⟩
def RJ9 : String := "java/lang/Math"
def TJ9 : u_T := fun k => match k with
  | _ => ("", "", "", false)
def tyJ9 : Nat → FieldType := fun k => match k with
  | _ => .int
theorem nmJ9 : ∀ a, a < 0 → ∀ b, b < 0 → a ≠ b → (TJ9 a).2.1 ≠ (TJ9 b).2.1 := by decide +kernel
theorem tyJ9_ok : ∀ k, k < 0 → parseFieldDescriptor (TJ9 k).2.2.1 = some (tyJ9 k) := by decide +kernel
abbrev cJ9_max_7cf53 : ByteArray := prog_16_method_65_code
def yJ9_max_7cf53 : MethodName := ⟨RJ9, "max", "(II)I"⟩
abbrev cJ9_min_7cf53 : ByteArray := prog_16_method_69_code
def yJ9_min_7cf53 : MethodName := ⟨RJ9, "min", "(II)I"⟩
def RJ0 : String := "java/lang/String"
def TJ0 : u_T := fun k => match k with
  | _ => ("", "", "", false)
def tyJ0 : Nat → FieldType := fun k => match k with
  | _ => .int
theorem nmJ0 : ∀ a, a < 0 → ∀ b, b < 0 → a ≠ b → (TJ0 a).2.1 ≠ (TJ0 b).2.1 := by decide +kernel
theorem tyJ0_ok : ∀ k, k < 0 → parseFieldDescriptor (TJ0 k).2.2.1 = some (tyJ0 k) := by decide +kernel
def RL : String := "StrengthLayoutLaw"
abbrev cL_cell : ByteArray := method_2_code
def yL_cell : MethodName := ⟨RL, "cell", "([II)I"⟩
abbrev cL_at : ByteArray := method_3_code
def yL_at : MethodName := ⟨RL, "at", "(II)I"⟩
abbrev cL_most : ByteArray := method_4_code
def yL_most : MethodName := ⟨RL, "most", "(II[I[I[I[I)I"⟩
abbrev cL_bind : ByteArray := method_5_code
def yL_bind : MethodName := ⟨RL, "bind", "(III[I[I[I[I)V"⟩
abbrev cL_fill : ByteArray := method_6_code
def yL_fill : MethodName := ⟨RL, "fill", "(IIII[I[I[I[I)I"⟩
abbrev cL_all : ByteArray := method_7_code
def yL_all : MethodName := ⟨RL, "all", "(I[I[I[I[I[I[I[I[I[I)V"⟩
abbrev cL_settle : ByteArray := method_8_code
def yL_settle : MethodName := ⟨RL, "settle", "([I[I[I[I[I[I[I[I)V"⟩
abbrev cL_other : ByteArray := method_9_code
def yL_other : MethodName := ⟨RL, "other", "(I[I)I"⟩
abbrev cL_holds : ByteArray := method_10_code
def yL_holds : MethodName := ⟨RL, "holds", "(I[I[I)Z"⟩
abbrev cL_told : ByteArray := method_11_code
def yL_told : MethodName := ⟨RL, "told", "(LStrengthLayout;I[I[I[I[I)Z"⟩
abbrev cL_ahead : ByteArray := method_12_code
def yL_ahead : MethodName := ⟨RL, "ahead", "(LStrengthLayout;II[I[I[I[I)Z"⟩
abbrev cL_lay : ByteArray := method_13_code
def yL_lay : MethodName := ⟨RL, "lay", "(III[I[I)V"⟩
abbrev cL_act : ByteArray := method_14_code
def yL_act : MethodName := ⟨RL, "act", "(LStrengthLayout;III[I[I[I[I[I[I[I[I)Z"⟩
abbrev cL_law : ByteArray := code
def yL_law : MethodName := ⟨RL, "law", "([I)Z"⟩
abbrev vwCl : List vw_C := [(RX0, TX0, 1), (RX1, TX1, 5), (RX2, TX2, 3), (RX3, TX3, 4), (RX4, TX4, 3), (RX5, TX5, 6), (RX6, TX6, 8), (RX7, TX7, 10)]
