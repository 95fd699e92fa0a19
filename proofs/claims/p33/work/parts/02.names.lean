def RX0 : String := "Quarterpowers$Becoming"
def TX0 : u_T := fun k => match k with
  | _ => ("", "", "", false)
def tyX0 : Nat → FieldType := fun k => match k with
  | _ => .int
theorem nmX0 : ∀ a, a < 0 → ∀ b, b < 0 → a ≠ b → (TX0 a).2.1 ≠ (TX0 b).2.1 := by decide +kernel
theorem tyX0_ok : ∀ k, k < 0 → parseFieldDescriptor (TX0 k).2.2.1 = some (tyX0 k) := by decide +kernel
abbrev cX0_change : ByteArray := prog_2_method_2_code
def yX0_change : MethodName := ⟨RX0, "change", "(II)I"⟩
abbrev cX0_powered : ByteArray := prog_2_method_3_code
def yX0_powered : MethodName := ⟨RX0, "powered", "(I)I"⟩
abbrev cX0_lessened : ByteArray := prog_2_method_4_code
def yX0_lessened : MethodName := ⟨RX0, "lessened", "(I)I"⟩
abbrev cX0_logged : ByteArray := prog_2_method_5_code
def yX0_logged : MethodName := ⟨RX0, "logged", "(I)I"⟩
abbrev cX0_loggedQuarter : ByteArray := prog_2_method_6_code
def yX0_loggedQuarter : MethodName := ⟨RX0, "loggedQuarter", "(II)I"⟩
def RX1 : String := "Quarterpowers$Kept"
def TX1 : u_T := fun k => match k with
  | _ => ("", "", "", false)
def tyX1 : Nat → FieldType := fun k => match k with
  | _ => .int
theorem nmX1 : ∀ a, a < 0 → ∀ b, b < 0 → a ≠ b → (TX1 a).2.1 ≠ (TX1 b).2.1 := by decide +kernel
theorem tyX1_ok : ∀ k, k < 0 → parseFieldDescriptor (TX1 k).2.2.1 = some (tyX1 k) := by decide +kernel
abbrev cX1_digitsOf : ByteArray := prog_3_method_2_code
def yX1_digitsOf : MethodName := ⟨RX1, "digitsOf", "(I)J"⟩
abbrev cX1_ofKind : ByteArray := prog_3_method_3_code
def yX1_ofKind : MethodName := ⟨RX1, "ofKind", "(IIZ)J"⟩
abbrev cX1_scaled : ByteArray := prog_3_method_4_code
def yX1_scaled : MethodName := ⟨RX1, "scaled", "(JI)J"⟩
abbrev cX1_mantissaOf : ByteArray := prog_3_method_5_code
def yX1_mantissaOf : MethodName := ⟨RX1, "mantissaOf", "(J)J"⟩
abbrev cX1_exponentOf : ByteArray := prog_3_method_6_code
def yX1_exponentOf : MethodName := ⟨RX1, "exponentOf", "(J)I"⟩
abbrev cX1_compare : ByteArray := prog_3_method_7_code
def yX1_compare : MethodName := ⟨RX1, "compare", "(JJ)I"⟩
abbrev cX1_steps : ByteArray := prog_3_method_8_code
def yX1_steps : MethodName := ⟨RX1, "steps", "(JJ)J"⟩
abbrev cX1_heightOf : ByteArray := prog_3_method_9_code
def yX1_heightOf : MethodName := ⟨RX1, "heightOf", "(J)I"⟩
abbrev cX1_firstDigits : ByteArray := prog_3_method_10_code
def yX1_firstDigits : MethodName := ⟨RX1, "firstDigits", "(J)I"⟩
abbrev cX1_roundedDown : ByteArray := prog_3_method_11_code
def yX1_roundedDown : MethodName := ⟨RX1, "roundedDown", "(JI)J"⟩
abbrev cX1_asDouble : ByteArray := prog_3_method_12_code
def yX1_asDouble : MethodName := ⟨RX1, "asDouble", "(J)D"⟩
abbrev cX1_stepsFromOne : ByteArray := prog_3_method_13_code
def yX1_stepsFromOne : MethodName := ⟨RX1, "stepsFromOne", "(D)D"⟩
def RX2 : String := "Quarterpowers$Num"
def TX2 : u_T := fun k => match k with
  | _ => ("", "", "", false)
def tyX2 : Nat → FieldType := fun k => match k with
  | _ => .int
theorem nmX2 : ∀ a, a < 0 → ∀ b, b < 0 → a ≠ b → (TX2 a).2.1 ≠ (TX2 b).2.1 := by decide +kernel
theorem tyX2_ok : ∀ k, k < 0 → parseFieldDescriptor (TX2 k).2.2.1 = some (tyX2 k) := by decide +kernel
abbrev cX2_make : ByteArray := prog_4_method_2_code
def yX2_make : MethodName := ⟨RX2, "make", "(II)I"⟩
abbrev cX2_quarters : ByteArray := prog_4_method_3_code
def yX2_quarters : MethodName := ⟨RX2, "quarters", "(I)I"⟩
abbrev cX2_nought : ByteArray := prog_4_method_4_code
def yX2_nought : MethodName := ⟨RX2, "nought", "(Z)I"⟩
abbrev cX2_withoutEnd : ByteArray := prog_4_method_5_code
def yX2_withoutEnd : MethodName := ⟨RX2, "withoutEnd", "(Z)I"⟩
abbrev cX2_makeSigned : ByteArray := prog_4_method_6_code
def yX2_makeSigned : MethodName := ⟨RX2, "makeSigned", "(IIZ)I"⟩
abbrev cX2_kindOf : ByteArray := prog_4_method_7_code
def yX2_kindOf : MethodName := ⟨RX2, "kindOf", "(I)I"⟩
abbrev cX2_qOf : ByteArray := prog_4_method_8_code
def yX2_qOf : MethodName := ⟨RX2, "qOf", "(I)I"⟩
abbrev cX2_isUnder : ByteArray := prog_4_method_9_code
def yX2_isUnder : MethodName := ⟨RX2, "isUnder", "(I)Z"⟩
abbrev cX2_isNought : ByteArray := prog_4_method_10_code
def yX2_isNought : MethodName := ⟨RX2, "isNought", "(I)Z"⟩
abbrev cX2_canBeQuarter : ByteArray := prog_4_method_11_code
def yX2_canBeQuarter : MethodName := ⟨RX2, "canBeQuarter", "(I)Z"⟩
abbrev cX2_turned : ByteArray := prog_4_method_12_code
def yX2_turned : MethodName := ⟨RX2, "turned", "(I)I"⟩
abbrev cX2_hasWhole : ByteArray := prog_4_method_13_code
def yX2_hasWhole : MethodName := ⟨RX2, "hasWhole", "(I)Z"⟩
abbrev cX2_hasHeight : ByteArray := prog_4_method_14_code
def yX2_hasHeight : MethodName := ⟨RX2, "hasHeight", "(I)Z"⟩
abbrev cX2_hasToldDigits : ByteArray := prog_4_method_15_code
def yX2_hasToldDigits : MethodName := ⟨RX2, "hasToldDigits", "(I)Z"⟩
abbrev cX2_areNear : ByteArray := prog_4_method_16_code
def yX2_areNear : MethodName := ⟨RX2, "areNear", "(II)Z"⟩
abbrev cX2_hasQuarterAsTrue : ByteArray := prog_4_method_17_code
def yX2_hasQuarterAsTrue : MethodName := ⟨RX2, "hasQuarterAsTrue", "(I)Z"⟩
abbrev cX2_mostSteps : ByteArray := prog_4_method_18_code
def yX2_mostSteps : MethodName := ⟨RX2, "mostSteps", "(I)I"⟩
abbrev cX2_textOf : ByteArray := prog_4_method_19_code
def yX2_textOf : MethodName := ⟨RX2, "textOf", "(I)Ljava/lang/String;"⟩
abbrev cX2_nameOf : ByteArray := prog_4_method_20_code
def yX2_nameOf : MethodName := ⟨RX2, "nameOf", "(I)Ljava/lang/String;"⟩
def RX3 : String := "Quarterpowers$Rows"
def TX3 : u_T := fun k => match k with
  | _ => ("", "", "", false)
def tyX3 : Nat → FieldType := fun k => match k with
  | _ => .int
theorem nmX3 : ∀ a, a < 0 → ∀ b, b < 0 → a ≠ b → (TX3 a).2.1 ≠ (TX3 b).2.1 := by decide +kernel
theorem tyX3_ok : ∀ k, k < 0 → parseFieldDescriptor (TX3 k).2.2.1 = some (tyX3 k) := by decide +kernel
abbrev cX3_take : ByteArray := prog_5_method_2_code
def yX3_take : MethodName := ⟨RX3, "take", "([JI)J"⟩
def RX4 : String := "Quarterpowers$Series"
def TX4 : u_T := fun k => match k with
  | _ => ("", "", "", false)
def tyX4 : Nat → FieldType := fun k => match k with
  | _ => .int
theorem nmX4 : ∀ a, a < 0 → ∀ b, b < 0 → a ≠ b → (TX4 a).2.1 ≠ (TX4 b).2.1 := by decide +kernel
theorem tyX4_ok : ∀ k, k < 0 → parseFieldDescriptor (TX4 k).2.2.1 = some (tyX4 k) := by decide +kernel
abbrev cX4_firstQ : ByteArray := prog_6_method_2_code
def yX4_firstQ : MethodName := ⟨RX4, "firstQ", "(I)I"⟩
abbrev cX4_lastQ : ByteArray := prog_6_method_3_code
def yX4_lastQ : MethodName := ⟨RX4, "lastQ", "(I)I"⟩
abbrev cX4_has : ByteArray := prog_6_method_4_code
def yX4_has : MethodName := ⟨RX4, "has", "(II)Z"⟩
abbrev cX4_digitsAt : ByteArray := prog_6_method_5_code
def yX4_digitsAt : MethodName := ⟨RX4, "digitsAt", "(II)J"⟩
abbrev cX4_countAhead : ByteArray := prog_6_method_6_code
def yX4_countAhead : MethodName := ⟨RX4, "countAhead", "(IJ)I"⟩
def RX5 : String := "Quarterpowers"
def TX5 : u_T := fun k => match k with
  | 0 => ("Quarterpowers", "cells", "[I", true)
  | 1 => ("Quarterpowers", "kept", "[J", true)
  | 2 => ("Quarterpowers", "earlier", "[I", true)
  | 3 => ("Quarterpowers", "acts", "I", false)
  | 4 => ("Quarterpowers", "refusals", "I", false)
  | _ => ("Quarterpowers", "knocks", "I", false)
def tyX5 : Nat → FieldType := fun k => match k with
  | 0 => .array .int
  | 1 => .array .long
  | 2 => .array .int
  | 3 => .int
  | 4 => .int
  | _ => .int
theorem nmX5 : ∀ a, a < 6 → ∀ b, b < 6 → a ≠ b → (TX5 a).2.1 ≠ (TX5 b).2.1 := by decide +kernel
theorem tyX5_ok : ∀ k, k < 6 → parseFieldDescriptor (TX5 k).2.2.1 = some (tyX5 k) := by decide +kernel
abbrev cX5_init : ByteArray := prog_1_method_1_code
def yX5_init : MethodName := ⟨RX5, "<init>", "()V"⟩
abbrev cX5_quarter : ByteArray := prog_1_method_2_code
def yX5_quarter : MethodName := ⟨RX5, "quarter", "(II)I"⟩
abbrev cX5_zero : ByteArray := prog_1_method_3_code
def yX5_zero : MethodName := ⟨RX5, "zero", "(IZ)I"⟩
abbrev cX5_endless : ByteArray := prog_1_method_4_code
def yX5_endless : MethodName := ⟨RX5, "endless", "(IZ)I"⟩
abbrev cX5_row : ByteArray := prog_1_method_5_code
def yX5_row : MethodName := ⟨RX5, "row", "(II)I"⟩
abbrev cX5_wipe : ByteArray := prog_1_method_6_code
def yX5_wipe : MethodName := ⟨RX5, "wipe", "()I"⟩
abbrev cX5_copy : ByteArray := prog_1_method_7_code
def yX5_copy : MethodName := ⟨RX5, "copy", "(II)I"⟩
abbrev cX5_swap : ByteArray := prog_1_method_8_code
def yX5_swap : MethodName := ⟨RX5, "swap", "(II)I"⟩
abbrev cX5_step : ByteArray := prog_1_method_9_code
def yX5_step : MethodName := ⟨RX5, "step", "(II)I"⟩
abbrev cX5_turn : ByteArray := prog_1_method_10_code
def yX5_turn : MethodName := ⟨RX5, "turn", "(I)I"⟩
abbrev cX5_power : ByteArray := prog_1_method_11_code
def yX5_power : MethodName := ⟨RX5, "power", "(II)I"⟩
abbrev cX5_lessen : ByteArray := prog_1_method_12_code
def yX5_lessen : MethodName := ⟨RX5, "lessen", "(II)I"⟩
abbrev cX5_log : ByteArray := prog_1_method_13_code
def yX5_log : MethodName := ⟨RX5, "log", "(II)I"⟩
abbrev cX5_all : ByteArray := prog_1_method_14_code
def yX5_all : MethodName := ⟨RX5, "all", "(I)I"⟩
abbrev cX5_greater : ByteArray := prog_1_method_15_code
def yX5_greater : MethodName := ⟨RX5, "greater", "(III)I"⟩
abbrev cX5_lesser : ByteArray := prog_1_method_16_code
def yX5_lesser : MethodName := ⟨RX5, "lesser", "(III)I"⟩
abbrev cX5_end : ByteArray := prog_1_method_17_code
def yX5_end : MethodName := ⟨RX5, "end", "(ZI)I"⟩
abbrev cX5_sort : ByteArray := prog_1_method_18_code
def yX5_sort : MethodName := ⟨RX5, "sort", "()I"⟩
abbrev cX5_kind : ByteArray := prog_1_method_19_code
def yX5_kind : MethodName := ⟨RX5, "kind", "(I)I"⟩
abbrev cX5_of : ByteArray := prog_1_method_20_code
def yX5_of : MethodName := ⟨RX5, "of", "(I)I"⟩
abbrev cX5_isBelow : ByteArray := prog_1_method_21_code
def yX5_isBelow : MethodName := ⟨RX5, "isBelow", "(I)Z"⟩
abbrev cX5_isZero : ByteArray := prog_1_method_22_code
def yX5_isZero : MethodName := ⟨RX5, "isZero", "(I)Z"⟩
abbrev cX5_isEndless : ByteArray := prog_1_method_23_code
def yX5_isEndless : MethodName := ⟨RX5, "isEndless", "(I)Z"⟩
abbrev cX5_whole : ByteArray := prog_1_method_24_code
def yX5_whole : MethodName := ⟨RX5, "whole", "(II)I"⟩
abbrev cX5_height : ByteArray := prog_1_method_25_code
def yX5_height : MethodName := ⟨RX5, "height", "(I)I"⟩
abbrev cX5_digits : ByteArray := prog_1_method_26_code
def yX5_digits : MethodName := ⟨RX5, "digits", "(I)I"⟩
abbrev cX5_upper : ByteArray := prog_1_method_27_code
def yX5_upper : MethodName := ⟨RX5, "upper", "(I)I"⟩
abbrev cX5_lower : ByteArray := prog_1_method_28_code
def yX5_lower : MethodName := ⟨RX5, "lower", "(I)I"⟩
abbrev cX5_text : ByteArray := prog_1_method_29_code
def yX5_text : MethodName := ⟨RX5, "text", "(I)Ljava/lang/String;"⟩
abbrev cX5_order : ByteArray := prog_1_method_30_code
def yX5_order : MethodName := ⟨RX5, "order", "(II)I"⟩
abbrev cX5_isAlike : ByteArray := prog_1_method_31_code
def yX5_isAlike : MethodName := ⟨RX5, "isAlike", "(II)Z"⟩
abbrev cX5_isNear : ByteArray := prog_1_method_32_code
def yX5_isNear : MethodName := ⟨RX5, "isNear", "(II)Z"⟩
abbrev cX5_most : ByteArray := prog_1_method_33_code
def yX5_most : MethodName := ⟨RX5, "most", "(II)I"⟩
abbrev cX5_isWithin : ByteArray := prog_1_method_34_code
def yX5_isWithin : MethodName := ⟨RX5, "isWithin", "(II)Z"⟩
abbrev cX5_find : ByteArray := prog_1_method_35_code
def yX5_find : MethodName := ⟨RX5, "find", "(IZ)I"⟩
abbrev cX5_rank : ByteArray := prog_1_method_36_code
def yX5_rank : MethodName := ⟨RX5, "rank", "(I)I"⟩
abbrev cX5_before : ByteArray := prog_1_method_37_code
def yX5_before : MethodName := ⟨RX5, "before", "(II)I"⟩
abbrev cX5_answer : ByteArray := prog_1_method_38_code
def yX5_answer : MethodName := ⟨RX5, "answer", "(III)I"⟩
abbrev cX5_below : ByteArray := prog_1_method_39_code
def yX5_below : MethodName := ⟨RX5, "below", "(III)I"⟩
abbrev cX5_rises : ByteArray := prog_1_method_40_code
def yX5_rises : MethodName := ⟨RX5, "rises", "(III)Z"⟩
abbrev cX5_between : ByteArray := prog_1_method_41_code
def yX5_between : MethodName := ⟨RX5, "between", "(I)Z"⟩
abbrev cX5_lies : ByteArray := prog_1_method_42_code
def yX5_lies : MethodName := ⟨RX5, "lies", "(I)Z"⟩
abbrev cX5_undone : ByteArray := prog_1_method_43_code
def yX5_undone : MethodName := ⟨RX5, "undone", "(I)Z"⟩
abbrev cX5_comesBack : ByteArray := prog_1_method_44_code
def yX5_comesBack : MethodName := ⟨RX5, "comesBack", "(I)Z"⟩
abbrev cX5_comesForth : ByteArray := prog_1_method_45_code
def yX5_comesForth : MethodName := ⟨RX5, "comesForth", "(I)Z"⟩
abbrev cX5_opposite : ByteArray := prog_1_method_46_code
def yX5_opposite : MethodName := ⟨RX5, "opposite", "(I)Z"⟩
abbrev cX5_house : ByteArray := prog_1_method_47_code
def yX5_house : MethodName := ⟨RX5, "house", "(I)I"⟩
abbrev cX5_knock : ByteArray := prog_1_method_48_code
def yX5_knock : MethodName := ⟨RX5, "knock", "()I"⟩
abbrev cX5_isSound : ByteArray := prog_1_method_49_code
def yX5_isSound : MethodName := ⟨RX5, "isSound", "()Z"⟩
abbrev cX5_digest : ByteArray := prog_1_method_50_code
def yX5_digest : MethodName := ⟨RX5, "digest", "()J"⟩
abbrev cX5_place : ByteArray := prog_1_method_51_code
def yX5_place : MethodName := ⟨RX5, "place", "(II)V"⟩
abbrev cX5_bring : ByteArray := prog_1_method_52_code
def yX5_bring : MethodName := ⟨RX5, "bring", "(II)I"⟩
abbrev cX5_bringChanged : ByteArray := prog_1_method_53_code
def yX5_bringChanged : MethodName := ⟨RX5, "bringChanged", "(III)I"⟩
abbrev cX5_countAct : ByteArray := prog_1_method_54_code
def yX5_countAct : MethodName := ⟨RX5, "countAct", "(I)I"⟩
abbrev cX5_refuse : ByteArray := prog_1_method_55_code
def yX5_refuse : MethodName := ⟨RX5, "refuse", "()I"⟩
abbrev cX5_remember : ByteArray := prog_1_method_56_code
def yX5_remember : MethodName := ⟨RX5, "remember", "()V"⟩
abbrev cX5_changedCells : ByteArray := prog_1_method_57_code
def yX5_changedCells : MethodName := ⟨RX5, "changedCells", "()I"⟩
abbrev cX5_compareCells : ByteArray := prog_1_method_58_code
def yX5_compareCells : MethodName := ⟨RX5, "compareCells", "(II)I"⟩
abbrev cX5_cellsWithQuarters : ByteArray := prog_1_method_59_code
def yX5_cellsWithQuarters : MethodName := ⟨RX5, "cellsWithQuarters", "()I"⟩
abbrev cX5_nearPairs : ByteArray := prog_1_method_60_code
def yX5_nearPairs : MethodName := ⟨RX5, "nearPairs", "()I"⟩
abbrev cX5_areWithin : ByteArray := prog_1_method_61_code
def yX5_areWithin : MethodName := ⟨RX5, "areWithin", "(II)Z"⟩
abbrev cX5_liesBetween : ByteArray := prog_1_method_62_code
def yX5_liesBetween : MethodName := ⟨RX5, "liesBetween", "(I)Z"⟩
abbrev cX5_liesUnderQuarter : ByteArray := prog_1_method_63_code
def yX5_liesUnderQuarter : MethodName := ⟨RX5, "liesUnderQuarter", "(I)Z"⟩
abbrev cX5_isInItsPlace : ByteArray := prog_1_method_64_code
def yX5_isInItsPlace : MethodName := ⟨RX5, "isInItsPlace", "(I)Z"⟩
abbrev cX5_isPairSound : ByteArray := prog_1_method_65_code
def yX5_isPairSound : MethodName := ⟨RX5, "isPairSound", "(II)Z"⟩
abbrev cX5_areTriplesSound : ByteArray := prog_1_method_66_code
def yX5_areTriplesSound : MethodName := ⟨RX5, "areTriplesSound", "()Z"⟩
abbrev cX5_digestCell : ByteArray := prog_1_method_67_code
def yX5_digestCell : MethodName := ⟨RX5, "digestCell", "(JI)J"⟩
abbrev cX5_checkCell : ByteArray := prog_1_method_68_code
def yX5_checkCell : MethodName := ⟨RX5, "checkCell", "(I)V"⟩
abbrev cX5_checkRange : ByteArray := prog_1_method_69_code
def yX5_checkRange : MethodName := ⟨RX5, "checkRange", "(III)V"⟩
abbrev cX5_checkSeries : ByteArray := prog_1_method_70_code
def yX5_checkSeries : MethodName := ⟨RX5, "checkSeries", "(I)V"⟩
abbrev cX5_checkHeight : ByteArray := prog_1_method_71_code
def yX5_checkHeight : MethodName := ⟨RX5, "checkHeight", "(I)V"⟩
abbrev cX5_checkToldDigits : ByteArray := prog_1_method_72_code
def yX5_checkToldDigits : MethodName := ⟨RX5, "checkToldDigits", "(I)V"⟩
abbrev cX5_checkNear : ByteArray := prog_1_method_73_code
def yX5_checkNear : MethodName := ⟨RX5, "checkNear", "(II)V"⟩
abbrev cX5_checkedInt : ByteArray := prog_1_method_74_code
def yX5_checkedInt : MethodName := ⟨RX5, "checkedInt", "(J)I"⟩
def RX6 : String := "QuarterpowersLaw$Out"
def TX6 : u_T := fun k => match k with
  | 0 => ("QuarterpowersLaw$Out", "n", "J", false)
  | _ => ("QuarterpowersLaw$Out", "s", "Ljava/lang/String;", false)
def tyX6 : Nat → FieldType := fun k => match k with
  | 0 => .long
  | _ => .object "java/lang/String"
theorem nmX6 : ∀ a, a < 2 → ∀ b, b < 2 → a ≠ b → (TX6 a).2.1 ≠ (TX6 b).2.1 := by decide +kernel
theorem tyX6_ok : ∀ k, k < 2 → parseFieldDescriptor (TX6 k).2.2.1 = some (tyX6 k) := by decide +kernel
abbrev cX6_init : ByteArray := prog_8_method_1_code
def yX6_init : MethodName := ⟨RX6, "<init>", "()V"⟩
def RX7 : String := "QuarterpowersModel"
def TX7 : u_T := fun k => match k with
  | 0 => ("QuarterpowersModel", "powers", "[[I", true)
  | 1 => ("QuarterpowersModel", "logs", "[[I", true)
  | 2 => ("QuarterpowersModel", "two", "[I", true)
  | 3 => ("QuarterpowersModel", "product", "[I", true)
  | 4 => ("QuarterpowersModel", "kinds", "[I", false)
  | 5 => ("QuarterpowersModel", "qs", "[I", false)
  | 6 => ("QuarterpowersModel", "areBelow", "[Z", false)
  | 7 => ("QuarterpowersModel", "done", "I", false)
  | 8 => ("QuarterpowersModel", "refused", "I", false)
  | 9 => ("QuarterpowersModel", "knocked", "I", false)
  | _ => ("QuarterpowersModel", "thrown", "I", false)
def tyX7 : Nat → FieldType := fun k => match k with
  | 0 => .array (.array .int)
  | 1 => .array (.array .int)
  | 2 => .array .int
  | 3 => .array .int
  | 4 => .array .int
  | 5 => .array .int
  | 6 => .array .boolean
  | 7 => .int
  | 8 => .int
  | 9 => .int
  | _ => .int
theorem nmX7 : ∀ a, a < 11 → ∀ b, b < 11 → a ≠ b → (TX7 a).2.1 ≠ (TX7 b).2.1 := by decide +kernel
theorem tyX7_ok : ∀ k, k < 11 → parseFieldDescriptor (TX7 k).2.2.1 = some (tyX7 k) := by decide +kernel
abbrev cX7_init : ByteArray := prog_9_method_1_code
def yX7_init : MethodName := ⟨RX7, "<init>", "()V"⟩
abbrev cX7_thrown : ByteArray := prog_9_method_2_code
def yX7_thrown : MethodName := ⟨RX7, "thrown", "()I"⟩
abbrev cX7_add : ByteArray := prog_9_method_3_code
def yX7_add : MethodName := ⟨RX7, "add", "([I[IZ)V"⟩
abbrev cX7_sum : ByteArray := prog_9_method_4_code
def yX7_sum : MethodName := ⟨RX7, "sum", "([I[IZ)[I"⟩
abbrev cX7_divide : ByteArray := prog_9_method_5_code
def yX7_divide : MethodName := ⟨RX7, "divide", "([II[I)V"⟩
abbrev cX7_multiply : ByteArray := prog_9_method_6_code
def yX7_multiply : MethodName := ⟨RX7, "multiply", "([II)V"⟩
abbrev cX7_isNothing : ByteArray := prog_9_method_7_code
def yX7_isNothing : MethodName := ⟨RX7, "isNothing", "([I)Z"⟩
abbrev cX7_times : ByteArray := prog_9_method_8_code
def yX7_times : MethodName := ⟨RX7, "times", "([I[I)[I"⟩
abbrev cX7_root : ByteArray := prog_9_method_9_code
def yX7_root : MethodName := ⟨RX7, "root", "(Z)[I"⟩
abbrev cX7_ratioLog : ByteArray := prog_9_method_10_code
def yX7_ratioLog : MethodName := ⟨RX7, "ratioLog", "(II)[I"⟩
abbrev cX7_logOf : ByteArray := prog_9_method_11_code
def yX7_logOf : MethodName := ⟨RX7, "logOf", "(I)[I"⟩
abbrev cX7_placed : ByteArray := prog_9_method_12_code
def yX7_placed : MethodName := ⟨RX7, "placed", "(II)[I"⟩
abbrev cX7_quarterOf : ByteArray := prog_9_method_13_code
def yX7_quarterOf : MethodName := ⟨RX7, "quarterOf", "(I)[I"⟩
abbrev cX7_trueOf : ByteArray := prog_9_method_14_code
def yX7_trueOf : MethodName := ⟨RX7, "trueOf", "(II)[I"⟩
abbrev cX7_trueIn : ByteArray := prog_9_method_15_code
def yX7_trueIn : MethodName := ⟨RX7, "trueIn", "(II)[I"⟩
abbrev cX7_compare : ByteArray := prog_9_method_16_code
def yX7_compare : MethodName := ⟨RX7, "compare", "([I[I)I"⟩
abbrev cX7_digitAt : ByteArray := prog_9_method_17_code
def yX7_digitAt : MethodName := ⟨RX7, "digitAt", "([II)I"⟩
abbrev cX7_digitsFrom : ByteArray := prog_9_method_18_code
def yX7_digitsFrom : MethodName := ⟨RX7, "digitsFrom", "([II)I"⟩
abbrev cX7_isInt : ByteArray := prog_9_method_19_code
def yX7_isInt : MethodName := ⟨RX7, "isInt", "([II)Z"⟩
abbrev cX7_placeOf : ByteArray := prog_9_method_20_code
def yX7_placeOf : MethodName := ⟨RX7, "placeOf", "([I)I"⟩
abbrev cX7_sizeOf : ByteArray := prog_9_method_21_code
def yX7_sizeOf : MethodName := ⟨RX7, "sizeOf", "([I)[I"⟩
abbrev cX7_orderOf : ByteArray := prog_9_method_22_code
def yX7_orderOf : MethodName := ⟨RX7, "orderOf", "(II)I"⟩
abbrev cX7_isNought : ByteArray := prog_9_method_23_code
def yX7_isNought : MethodName := ⟨RX7, "isNought", "(I)Z"⟩
abbrev cX7_areAlike : ByteArray := prog_9_method_24_code
def yX7_areAlike : MethodName := ⟨RX7, "areAlike", "(II)Z"⟩
abbrev cX7_areNear : ByteArray := prog_9_method_25_code
def yX7_areNear : MethodName := ⟨RX7, "areNear", "(II)Z"⟩
abbrev cX7_isIn : ByteArray := prog_9_method_26_code
def yX7_isIn : MethodName := ⟨RX7, "isIn", "(III)Z"⟩
abbrev cX7_isRefused : ByteArray := prog_9_method_27_code
def yX7_isRefused : MethodName := ⟨RX7, "isRefused", "(ZZ)Z"⟩
abbrev cX7_isNoCell : ByteArray := prog_9_method_28_code
def yX7_isNoCell : MethodName := ⟨RX7, "isNoCell", "(I)Z"⟩
abbrev cX7_come : ByteArray := prog_9_method_29_code
def yX7_come : MethodName := ⟨RX7, "come", "(IIIZ)I"⟩
abbrev cX7_refused : ByteArray := prog_9_method_30_code
def yX7_refused : MethodName := ⟨RX7, "refused", "()I"⟩
abbrev cX7_quarter : ByteArray := prog_9_method_31_code
def yX7_quarter : MethodName := ⟨RX7, "quarter", "(II)I"⟩
abbrev cX7_zero : ByteArray := prog_9_method_32_code
def yX7_zero : MethodName := ⟨RX7, "zero", "(IZ)I"⟩
abbrev cX7_endless : ByteArray := prog_9_method_33_code
def yX7_endless : MethodName := ⟨RX7, "endless", "(IZ)I"⟩
abbrev cX7_others : ByteArray := prog_9_method_34_code
def yX7_others : MethodName := ⟨RX7, "others", "([I[I[Z)I"⟩
abbrev cX7_row : ByteArray := prog_9_method_35_code
def yX7_row : MethodName := ⟨RX7, "row", "(II)I"⟩
abbrev cX7_lay : ByteArray := prog_9_method_36_code
def yX7_lay : MethodName := ⟨RX7, "lay", "(II)I"⟩
abbrev cX7_wipe : ByteArray := prog_9_method_37_code
def yX7_wipe : MethodName := ⟨RX7, "wipe", "()I"⟩
abbrev cX7_copy : ByteArray := prog_9_method_38_code
def yX7_copy : MethodName := ⟨RX7, "copy", "(II)I"⟩
abbrev cX7_swap : ByteArray := prog_9_method_39_code
def yX7_swap : MethodName := ⟨RX7, "swap", "(II)I"⟩
abbrev cX7_step : ByteArray := prog_9_method_40_code
def yX7_step : MethodName := ⟨RX7, "step", "(II)I"⟩
abbrev cX7_turn : ByteArray := prog_9_method_41_code
def yX7_turn : MethodName := ⟨RX7, "turn", "(I)I"⟩
abbrev cX7_become : ByteArray := prog_9_method_42_code
def yX7_become : MethodName := ⟨RX7, "become", "(IIIZ)[I"⟩
abbrev cX7_ofEndless : ByteArray := prog_9_method_43_code
def yX7_ofEndless : MethodName := ⟨RX7, "ofEndless", "(IZ)[I"⟩
abbrev cX7_isBack : ByteArray := prog_9_method_44_code
def yX7_isBack : MethodName := ⟨RX7, "isBack", "([I)Z"⟩
abbrev cX7_becomes : ByteArray := prog_9_method_45_code
def yX7_becomes : MethodName := ⟨RX7, "becomes", "(II)[I"⟩
abbrev cX7_made : ByteArray := prog_9_method_46_code
def yX7_made : MethodName := ⟨RX7, "made", "(III)I"⟩
abbrev cX7_power : ByteArray := prog_9_method_47_code
def yX7_power : MethodName := ⟨RX7, "power", "(II)I"⟩
abbrev cX7_lessen : ByteArray := prog_9_method_48_code
def yX7_lessen : MethodName := ⟨RX7, "lessen", "(II)I"⟩
abbrev cX7_log : ByteArray := prog_9_method_49_code
def yX7_log : MethodName := ⟨RX7, "log", "(II)I"⟩
abbrev cX7_all : ByteArray := prog_9_method_50_code
def yX7_all : MethodName := ⟨RX7, "all", "(I)I"⟩
abbrev cX7_take : ByteArray := prog_9_method_51_code
def yX7_take : MethodName := ⟨RX7, "take", "(II)I"⟩
abbrev cX7_greater : ByteArray := prog_9_method_52_code
def yX7_greater : MethodName := ⟨RX7, "greater", "(III)I"⟩
abbrev cX7_lesser : ByteArray := prog_9_method_53_code
def yX7_lesser : MethodName := ⟨RX7, "lesser", "(III)I"⟩
abbrev cX7_end : ByteArray := prog_9_method_54_code
def yX7_end : MethodName := ⟨RX7, "end", "(ZI)I"⟩
abbrev cX7_sort : ByteArray := prog_9_method_55_code
def yX7_sort : MethodName := ⟨RX7, "sort", "()I"⟩
abbrev cX7_kind : ByteArray := prog_9_method_56_code
def yX7_kind : MethodName := ⟨RX7, "kind", "(I)I"⟩
abbrev cX7_of : ByteArray := prog_9_method_57_code
def yX7_of : MethodName := ⟨RX7, "of", "(I)I"⟩
abbrev cX7_isBelow : ByteArray := prog_9_method_58_code
def yX7_isBelow : MethodName := ⟨RX7, "isBelow", "(I)Z"⟩
abbrev cX7_isZero : ByteArray := prog_9_method_59_code
def yX7_isZero : MethodName := ⟨RX7, "isZero", "(I)Z"⟩
abbrev cX7_isEndless : ByteArray := prog_9_method_60_code
def yX7_isEndless : MethodName := ⟨RX7, "isEndless", "(I)Z"⟩
abbrev cX7_isUntold : ByteArray := prog_9_method_61_code
def yX7_isUntold : MethodName := ⟨RX7, "isUntold", "(I)Z"⟩
abbrev cX7_whole : ByteArray := prog_9_method_62_code
def yX7_whole : MethodName := ⟨RX7, "whole", "(II)I"⟩
abbrev cX7_isLow : ByteArray := prog_9_method_63_code
def yX7_isLow : MethodName := ⟨RX7, "isLow", "(I)Z"⟩
abbrev cX7_height : ByteArray := prog_9_method_64_code
def yX7_height : MethodName := ⟨RX7, "height", "(I)I"⟩
abbrev cX7_digits : ByteArray := prog_9_method_65_code
def yX7_digits : MethodName := ⟨RX7, "digits", "(I)I"⟩
abbrev cX7_digitsOf : ByteArray := prog_9_method_66_code
def yX7_digitsOf : MethodName := ⟨RX7, "digitsOf", "(I)J"⟩
abbrev cX7_isUnkept : ByteArray := prog_9_method_67_code
def yX7_isUnkept : MethodName := ⟨RX7, "isUnkept", "(I)Z"⟩
abbrev cX7_upper : ByteArray := prog_9_method_68_code
def yX7_upper : MethodName := ⟨RX7, "upper", "(I)I"⟩
abbrev cX7_lower : ByteArray := prog_9_method_69_code
def yX7_lower : MethodName := ⟨RX7, "lower", "(I)I"⟩
abbrev cX7_text : ByteArray := prog_9_method_70_code
def yX7_text : MethodName := ⟨RX7, "text", "(I)Ljava/lang/String;"⟩
abbrev cX7_areNone : ByteArray := prog_9_method_71_code
def yX7_areNone : MethodName := ⟨RX7, "areNone", "(II)Z"⟩
abbrev cX7_order : ByteArray := prog_9_method_72_code
def yX7_order : MethodName := ⟨RX7, "order", "(II)I"⟩
abbrev cX7_isAlike : ByteArray := prog_9_method_73_code
def yX7_isAlike : MethodName := ⟨RX7, "isAlike", "(II)Z"⟩
abbrev cX7_isNear : ByteArray := prog_9_method_74_code
def yX7_isNear : MethodName := ⟨RX7, "isNear", "(II)Z"⟩
abbrev cX7_most : ByteArray := prog_9_method_75_code
def yX7_most : MethodName := ⟨RX7, "most", "(II)I"⟩
abbrev cX7_isWithin : ByteArray := prog_9_method_76_code
def yX7_isWithin : MethodName := ⟨RX7, "isWithin", "(II)Z"⟩
abbrev cX7_find : ByteArray := prog_9_method_77_code
def yX7_find : MethodName := ⟨RX7, "find", "(IZ)I"⟩
abbrev cX7_rank : ByteArray := prog_9_method_78_code
def yX7_rank : MethodName := ⟨RX7, "rank", "(I)I"⟩
abbrev cX7_before : ByteArray := prog_9_method_79_code
def yX7_before : MethodName := ⟨RX7, "before", "(II)I"⟩
abbrev cX7_less : ByteArray := prog_9_method_80_code
def yX7_less : MethodName := ⟨RX7, "less", "(I[I)I"⟩
abbrev cX7_isArgument : ByteArray := prog_9_method_81_code
def yX7_isArgument : MethodName := ⟨RX7, "isArgument", "(Z)Z"⟩
abbrev cX7_isOf : ByteArray := prog_9_method_82_code
def yX7_isOf : MethodName := ⟨RX7, "isOf", "(II)Z"⟩
abbrev cX7_answer : ByteArray := prog_9_method_83_code
def yX7_answer : MethodName := ⟨RX7, "answer", "(III)I"⟩
abbrev cX7_below : ByteArray := prog_9_method_84_code
def yX7_below : MethodName := ⟨RX7, "below", "(III)I"⟩
abbrev cX7_rises : ByteArray := prog_9_method_85_code
def yX7_rises : MethodName := ⟨RX7, "rises", "(III)Z"⟩
abbrev cX7_between : ByteArray := prog_9_method_86_code
def yX7_between : MethodName := ⟨RX7, "between", "(I)Z"⟩
abbrev cX7_lies : ByteArray := prog_9_method_87_code
def yX7_lies : MethodName := ⟨RX7, "lies", "(I)Z"⟩
abbrev cX7_undone : ByteArray := prog_9_method_88_code
def yX7_undone : MethodName := ⟨RX7, "undone", "(I)Z"⟩
abbrev cX7_comesBack : ByteArray := prog_9_method_89_code
def yX7_comesBack : MethodName := ⟨RX7, "comesBack", "(I)Z"⟩
abbrev cX7_comesForth : ByteArray := prog_9_method_90_code
def yX7_comesForth : MethodName := ⟨RX7, "comesForth", "(I)Z"⟩
abbrev cX7_opposite : ByteArray := prog_9_method_91_code
def yX7_opposite : MethodName := ⟨RX7, "opposite", "(I)Z"⟩
abbrev cX7_house : ByteArray := prog_9_method_92_code
def yX7_house : MethodName := ⟨RX7, "house", "(I)I"⟩
abbrev cX7_knock : ByteArray := prog_9_method_93_code
def yX7_knock : MethodName := ⟨RX7, "knock", "()I"⟩
abbrev cX7_isSound : ByteArray := prog_9_method_94_code
def yX7_isSound : MethodName := ⟨RX7, "isSound", "()Z"⟩
abbrev cX7_digest : ByteArray := prog_9_method_95_code
def yX7_digest : MethodName := ⟨RX7, "digest", "()J"⟩
def RJ5 : String := "java/lang/AbstractStringBuilder"
def TJ5 : u_T := fun k => match k with
  | _ => ("", "", "", false)
def tyJ5 : Nat → FieldType := fun k => match k with
  | _ => .int
theorem nmJ5 : ∀ a, a < 0 → ∀ b, b < 0 → a ≠ b → (TJ5 a).2.1 ≠ (TJ5 b).2.1 := by decide +kernel
theorem tyJ5_ok : ∀ k, k < 0 → parseFieldDescriptor (TJ5 k).2.2.1 = some (tyJ5 k) := by decide +kernel
abbrev cJ5_init_d00df : ByteArray := prog_10_method_2_code
def yJ5_init_d00df : MethodName := ⟨RJ5, "<init>", "(I)V"⟩
abbrev cJ5_length_8abf5 : ByteArray := prog_10_method_6_code
def yJ5_length_8abf5 : MethodName := ⟨RJ5, "length", "()I"⟩
abbrev cJ5_ensureCapacityInternal_d00df : ByteArray := prog_10_method_9_code
def yJ5_ensureCapacityInternal_d00df : MethodName := ⟨RJ5, "ensureCapacityInternal", "(I)V"⟩
abbrev cJ5_newCapacity_0f7a4 : ByteArray := prog_10_method_10_code
def yJ5_newCapacity_0f7a4 : MethodName := ⟨RJ5, "newCapacity", "(I)I"⟩
abbrev cJ5_inflate_da8c8 : ByteArray := prog_10_method_11_code
def yJ5_inflate_da8c8 : MethodName := ⟨RJ5, "inflate", "()V"⟩
abbrev cJ5_append_cf1ce : ByteArray := prog_10_method_22_code
def yJ5_append_cf1ce : MethodName := ⟨RJ5, "append", "(Ljava/lang/String;)Ljava/lang/AbstractStringBuilder;"⟩
abbrev cJ5_appendNull_278bc : ByteArray := prog_10_method_26_code
def yJ5_appendNull_278bc : MethodName := ⟨RJ5, "appendNull", "()Ljava/lang/AbstractStringBuilder;"⟩
abbrev cJ5_append_3fe6f : ByteArray := prog_10_method_31_code
def yJ5_append_3fe6f : MethodName := ⟨RJ5, "append", "(C)Ljava/lang/AbstractStringBuilder;"⟩
abbrev cJ5_append_c97b9 : ByteArray := prog_10_method_32_code
def yJ5_append_c97b9 : MethodName := ⟨RJ5, "append", "(I)Ljava/lang/AbstractStringBuilder;"⟩
abbrev cJ5_getValue_6d5f1 : ByteArray := prog_10_method_64_code
def yJ5_getValue_6d5f1 : MethodName := ⟨RJ5, "getValue", "()[B"⟩
abbrev cJ5_isLatin1_aae02 : ByteArray := prog_10_method_68_code
def yJ5_isLatin1_aae02 : MethodName := ⟨RJ5, "isLatin1", "()Z"⟩
abbrev cJ5_inflateIfNeededFor_a7421 : ByteArray := prog_10_method_71_code
def yJ5_inflateIfNeededFor_a7421 : MethodName := ⟨RJ5, "inflateIfNeededFor", "(Ljava/lang/String;)V"⟩
abbrev cJ5_putStringAt_47b60 : ByteArray := prog_10_method_73_code
def yJ5_putStringAt_47b60 : MethodName := ⟨RJ5, "putStringAt", "(ILjava/lang/String;)V"⟩
def RJx8e188 : String := "java/lang/Cloneable"
def TJx8e188 : u_T := fun k => match k with
  | _ => ("", "", "", false)
def tyJx8e188 : Nat → FieldType := fun k => match k with
  | _ => .int
theorem nmJx8e188 : ∀ a, a < 0 → ∀ b, b < 0 → a ≠ b → (TJx8e188 a).2.1 ≠ (TJx8e188 b).2.1 := by decide +kernel
theorem tyJx8e188_ok : ∀ k, k < 0 → parseFieldDescriptor (TJx8e188 k).2.2.1 = some (tyJx8e188 k) := by decide +kernel
def RJ6 : String := "java/lang/Integer"
def TJ6 : u_T := fun k => match k with
  | _ => ("", "", "", false)
def tyJ6 : Nat → FieldType := fun k => match k with
  | _ => .int
theorem nmJ6 : ∀ a, a < 0 → ∀ b, b < 0 → a ≠ b → (TJ6 a).2.1 ≠ (TJ6 b).2.1 := by decide +kernel
theorem tyJ6_ok : ∀ k, k < 0 → parseFieldDescriptor (TJ6 k).2.2.1 = some (tyJ6 k) := by decide +kernel
abbrev cJ6_getChars_ba4f3 : ByteArray := prog_16_method_12_code
def yJ6_getChars_ba4f3 : MethodName := ⟨RJ6, "getChars", "(II[B)I"⟩
abbrev cJ6_stringSize_0f7a4 : ByteArray := prog_16_method_13_code
def yJ6_stringSize_0f7a4 : MethodName := ⟨RJ6, "stringSize", "(I)I"⟩
abbrev cJ6_compare_7cf53 : ByteArray := prog_16_method_40_code
def yJ6_compare_7cf53 : MethodName := ⟨RJ6, "compare", "(II)I"⟩
def RJ13 : String := "java/lang/Long"
def TJ13 : u_T := fun k => match k with
  | _ => ("", "", "", false)
def tyJ13 : Nat → FieldType := fun k => match k with
  | _ => .int
theorem nmJ13 : ∀ a, a < 0 → ∀ b, b < 0 → a ≠ b → (TJ13 a).2.1 ≠ (TJ13 b).2.1 := by decide +kernel
theorem tyJ13_ok : ∀ k, k < 0 → parseFieldDescriptor (TJ13 k).2.2.1 = some (tyJ13 k) := by decide +kernel
abbrev cJ13_compare_74951 : ByteArray := prog_17_method_42_code
def yJ13_compare_74951 : MethodName := ⟨RJ13, "compare", "(JJ)I"⟩
def RJ9 : String := "java/lang/Math"
def TJ9 : u_T := fun k => match k with
  | _ => ("", "", "", false)
def tyJ9 : Nat → FieldType := fun k => match k with
  | _ => .int
theorem nmJ9 : ∀ a, a < 0 → ∀ b, b < 0 → a ≠ b → (TJ9 a).2.1 ≠ (TJ9 b).2.1 := by decide +kernel
theorem tyJ9_ok : ∀ k, k < 0 → parseFieldDescriptor (TJ9 k).2.2.1 = some (tyJ9 k) := by decide +kernel
abbrev cJ9_floorDiv_7cf53 : ByteArray := prog_18_method_47_code
def yJ9_floorDiv_7cf53 : MethodName := ⟨RJ9, "floorDiv", "(II)I"⟩
abbrev cJ9_abs_0f7a4 : ByteArray := prog_18_method_59_code
def yJ9_abs_0f7a4 : MethodName := ⟨RJ9, "abs", "(I)I"⟩
abbrev cJ9_abs_067f4 : ByteArray := prog_18_method_61_code
def yJ9_abs_067f4 : MethodName := ⟨RJ9, "abs", "(J)J"⟩
abbrev cJ9_max_7cf53 : ByteArray := prog_18_method_65_code
def yJ9_max_7cf53 : MethodName := ⟨RJ9, "max", "(II)I"⟩
abbrev cJ9_min_7cf53 : ByteArray := prog_18_method_69_code
def yJ9_min_7cf53 : MethodName := ⟨RJ9, "min", "(II)I"⟩
def RJ0 : String := "java/lang/String"
def TJ0 : u_T := fun k => match k with
  | 0 => ("java/lang/String", "value", "[B", true)
  | 1 => ("java/lang/String", "coder", "B", true)
  | 2 => ("java/lang/String", "hash", "I", false)
  | _ => ("java/lang/String", "hashIsZero", "Z", false)
def tyJ0 : Nat → FieldType := fun k => match k with
  | 0 => .array .byte
  | 1 => .byte
  | 2 => .int
  | _ => .boolean
theorem nmJ0 : ∀ a, a < 4 → ∀ b, b < 4 → a ≠ b → (TJ0 a).2.1 ≠ (TJ0 b).2.1 := by decide +kernel
theorem tyJ0_ok : ∀ k, k < 4 → parseFieldDescriptor (TJ0 k).2.2.1 = some (tyJ0 k) := by decide +kernel
abbrev cJ0_init_81219 : ByteArray := prog_20_method_53_code
def yJ0_init_81219 : MethodName := ⟨RJ0, "<init>", "(Ljava/lang/StringBuilder;)V"⟩
abbrev cJ0_length_8abf5 : ByteArray := prog_20_method_54_code
def yJ0_length_8abf5 : MethodName := ⟨RJ0, "length", "()I"⟩
abbrev cJ0_getBytes_840e7 : ByteArray := prog_20_method_147_code
def yJ0_getBytes_840e7 : MethodName := ⟨RJ0, "getBytes", "([BIB)V"⟩
abbrev cJ0_init_db425 : ByteArray := prog_20_method_150_code
def yJ0_init_db425 : MethodName := ⟨RJ0, "<init>", "(Ljava/lang/AbstractStringBuilder;Ljava/lang/Void;)V"⟩
abbrev cJ0_coder_7d493 : ByteArray := prog_20_method_152_code
def yJ0_coder_7d493 : MethodName := ⟨RJ0, "coder", "()B"⟩
abbrev cJ0_checkIndex_df160 : ByteArray := prog_20_method_155_code
def yJ0_checkIndex_df160 : MethodName := ⟨RJ0, "checkIndex", "(II)V"⟩
abbrev cJ0_checkBoundsOffCount_cabcc : ByteArray := prog_20_method_157_code
def yJ0_checkBoundsOffCount_cabcc : MethodName := ⟨RJ0, "checkBoundsOffCount", "(III)I"⟩
abbrev cJ0_checkBoundsBeginEnd_23922 : ByteArray := prog_20_method_158_code
def yJ0_checkBoundsBeginEnd_23922 : MethodName := ⟨RJ0, "checkBoundsBeginEnd", "(III)V"⟩
def RJ4 : String := "java/lang/StringBuilder"
def TJ4 : u_T := fun k => match k with
  | 0 => ("java/lang/AbstractStringBuilder", "value", "[B", false)
  | 1 => ("java/lang/AbstractStringBuilder", "coder", "B", false)
  | 2 => ("java/lang/AbstractStringBuilder", "maybeLatin1", "Z", false)
  | _ => ("java/lang/AbstractStringBuilder", "count", "I", false)
def tyJ4 : Nat → FieldType := fun k => match k with
  | 0 => .array .byte
  | 1 => .byte
  | 2 => .boolean
  | _ => .int
theorem nmJ4 : ∀ a, a < 4 → ∀ b, b < 4 → a ≠ b → (TJ4 a).2.1 ≠ (TJ4 b).2.1 := by decide +kernel
theorem tyJ4_ok : ∀ k, k < 4 → parseFieldDescriptor (TJ4 k).2.2.1 = some (tyJ4 k) := by decide +kernel
abbrev cJ4_init_da8c8 : ByteArray := prog_21_method_1_code
def yJ4_init_da8c8 : MethodName := ⟨RJ4, "<init>", "()V"⟩
abbrev cJ4_append_15ec4 : ByteArray := prog_21_method_7_code
def yJ4_append_15ec4 : MethodName := ⟨RJ4, "append", "(Ljava/lang/String;)Ljava/lang/StringBuilder;"⟩
abbrev cJ4_append_cf468 : ByteArray := prog_21_method_14_code
def yJ4_append_cf468 : MethodName := ⟨RJ4, "append", "(C)Ljava/lang/StringBuilder;"⟩
abbrev cJ4_append_bf812 : ByteArray := prog_21_method_15_code
def yJ4_append_bf812 : MethodName := ⟨RJ4, "append", "(I)Ljava/lang/StringBuilder;"⟩
abbrev cJ4_toString_0e30d : ByteArray := prog_21_method_42_code
def yJ4_toString_0e30d : MethodName := ⟨RJ4, "toString", "()Ljava/lang/String;"⟩
abbrev cJ4_length_8abf5 : ByteArray := prog_21_method_93_code
def yJ4_length_8abf5 : MethodName := ⟨RJ4, "length", "()I"⟩
def RJ1 : String := "java/lang/StringLatin1"
def TJ1 : u_T := fun k => match k with
  | _ => ("", "", "", false)
def tyJ1 : Nat → FieldType := fun k => match k with
  | _ => .int
theorem nmJ1 : ∀ a, a < 0 → ∀ b, b < 0 → a ≠ b → (TJ1 a).2.1 ≠ (TJ1 b).2.1 := by decide +kernel
theorem tyJ1_ok : ∀ k, k < 0 → parseFieldDescriptor (TJ1 k).2.2.1 = some (tyJ1 k) := by decide +kernel
abbrev cJ1_canEncode_fc78d : ByteArray := prog_22_method_3_code
def yJ1_canEncode_fc78d : MethodName := ⟨RJ1, "canEncode", "(C)Z"⟩
abbrev cJ1_inflate_0e8fd : ByteArray := prog_22_method_50_code
def yJ1_inflate_0e8fd : MethodName := ⟨RJ1, "inflate", "([BI[BII)V"⟩
def RJ2 : String := "java/lang/StringUTF16"
def TJ2 : u_T := fun k => match k with
  | _ => ("", "", "", false)
def tyJ2 : Nat → FieldType := fun k => match k with
  | _ => .int
theorem nmJ2 : ∀ a, a < 0 → ∀ b, b < 0 → a ≠ b → (TJ2 a).2.1 ≠ (TJ2 b).2.1 := by decide +kernel
theorem tyJ2_ok : ∀ k, k < 0 → parseFieldDescriptor (TJ2 k).2.2.1 = some (tyJ2 k) := by decide +kernel
abbrev cJ2_newBytesFor_77867 : ByteArray := prog_23_method_2_code
def yJ2_newBytesFor_77867 : MethodName := ⟨RJ2, "newBytesFor", "(I)[B"⟩
abbrev cJ2_newBytesLength_0f7a4 : ByteArray := prog_23_method_3_code
def yJ2_newBytesLength_0f7a4 : MethodName := ⟨RJ2, "newBytesLength", "(I)I"⟩
abbrev cJ2_putChar_b72d1 : ByteArray := prog_23_method_4_code
def yJ2_putChar_b72d1 : MethodName := ⟨RJ2, "putChar", "([BII)V"⟩
abbrev cJ2_getChar_3b067 : ByteArray := prog_23_method_5_code
def yJ2_getChar_3b067 : MethodName := ⟨RJ2, "getChar", "([BI)C"⟩
abbrev cJ2_length_9d52b : ByteArray := prog_23_method_6_code
def yJ2_length_9d52b : MethodName := ⟨RJ2, "length", "([B)I"⟩
abbrev cJ2_coderFromArrayLen_85cad : ByteArray := prog_23_method_15_code
def yJ2_coderFromArrayLen_85cad : MethodName := ⟨RJ2, "coderFromArrayLen", "([BI)B"⟩
abbrev cJ2_compress_39247 : ByteArray := prog_23_method_17_code
def yJ2_compress_39247 : MethodName := ⟨RJ2, "compress", "([BII)[B"⟩
abbrev cJ2_compress_5af95 : ByteArray := prog_23_method_22_code
def yJ2_compress_5af95 : MethodName := ⟨RJ2, "compress", "([BI[BII)I"⟩
abbrev cJ2_putCharSB_b72d1 : ByteArray := prog_23_method_71_code
def yJ2_putCharSB_b72d1 : MethodName := ⟨RJ2, "putCharSB", "([BII)V"⟩
abbrev cJ2_getChars_46870 : ByteArray := prog_23_method_77_code
def yJ2_getChars_46870 : MethodName := ⟨RJ2, "getChars", "(III[B)I"⟩
abbrev cJ2_putCharsAt_cd4e5 : ByteArray := prog_23_method_81_code
def yJ2_putCharsAt_cd4e5 : MethodName := ⟨RJ2, "putCharsAt", "([BICCCC)I"⟩
abbrev cJ2_inflate_0e8fd : ByteArray := prog_23_method_86_code
def yJ2_inflate_0e8fd : MethodName := ⟨RJ2, "inflate", "([BI[BII)V"⟩
abbrev cJ2_getChars_ba4f3 : ByteArray := prog_23_method_89_code
def yJ2_getChars_ba4f3 : MethodName := ⟨RJ2, "getChars", "(II[B)I"⟩
abbrev cJ2_checkIndex_2214a : ByteArray := prog_23_method_91_code
def yJ2_checkIndex_2214a : MethodName := ⟨RJ2, "checkIndex", "(I[B)V"⟩
abbrev cJ2_checkBoundsBeginEnd_d044e : ByteArray := prog_23_method_93_code
def yJ2_checkBoundsBeginEnd_d044e : MethodName := ⟨RJ2, "checkBoundsBeginEnd", "(II[B)V"⟩
abbrev cJ2_checkBoundsOffCount_d044e : ByteArray := prog_23_method_94_code
def yJ2_checkBoundsOffCount_d044e : MethodName := ⟨RJ2, "checkBoundsOffCount", "(II[B)V"⟩
def RJ10 : String := "java/lang/System"
def TJ10 : u_T := fun k => match k with
  | _ => ("", "", "", false)
def tyJ10 : Nat → FieldType := fun k => match k with
  | _ => .int
theorem nmJ10 : ∀ a, a < 0 → ∀ b, b < 0 → a ≠ b → (TJ10 a).2.1 ≠ (TJ10 b).2.1 := by decide +kernel
theorem tyJ10_ok : ∀ k, k < 0 → parseFieldDescriptor (TJ10 k).2.2.1 = some (tyJ10 k) := by decide +kernel
def RJ7 : String := "java/util/Arrays"
def TJ7 : u_T := fun k => match k with
  | _ => ("", "", "", false)
def tyJ7 : Nat → FieldType := fun k => match k with
  | _ => .int
theorem nmJ7 : ∀ a, a < 0 → ∀ b, b < 0 → a ≠ b → (TJ7 a).2.1 ≠ (TJ7 b).2.1 := by decide +kernel
theorem tyJ7_ok : ∀ k, k < 0 → parseFieldDescriptor (TJ7 k).2.2.1 = some (tyJ7 k) := by decide +kernel
abbrev cJ7_copyOf_9075b : ByteArray := prog_26_method_121_code
def yJ7_copyOf_9075b : MethodName := ⟨RJ7, "copyOf", "([BI)[B"⟩
abbrev cJ7_checkLength_df160 : ByteArray := prog_26_method_131_code
def yJ7_checkLength_df160 : MethodName := ⟨RJ7, "checkLength", "(II)V"⟩
abbrev cJ7_copyOfRange_39247 : ByteArray := prog_26_method_132_code
def yJ7_copyOfRange_39247 : MethodName := ⟨RJ7, "copyOfRange", "([BII)[B"⟩
abbrev cJ7_copyOfRangeByte_39247 : ByteArray := prog_26_method_133_code
def yJ7_copyOfRangeByte_39247 : MethodName := ⟨RJ7, "copyOfRangeByte", "([BII)[B"⟩
def RJ8 : String := "jdk/internal/util/ArraysSupport"
def TJ8 : u_T := fun k => match k with
  | _ => ("", "", "", false)
def tyJ8 : Nat → FieldType := fun k => match k with
  | _ => .int
theorem nmJ8 : ∀ a, a < 0 → ∀ b, b < 0 → a ≠ b → (TJ8 a).2.1 ≠ (TJ8 b).2.1 := by decide +kernel
theorem tyJ8_ok : ∀ k, k < 0 → parseFieldDescriptor (TJ8 k).2.2.1 = some (tyJ8 k) := by decide +kernel
abbrev cJ8_newLength_cabcc : ByteArray := prog_27_method_27_code
def yJ8_newLength_cabcc : MethodName := ⟨RJ8, "newLength", "(III)I"⟩
abbrev cJ8_hugeLength_7cf53 : ByteArray := prog_27_method_28_code
def yJ8_hugeLength_7cf53 : MethodName := ⟨RJ8, "hugeLength", "(II)I"⟩
def RJ3 : String := "jdk/internal/util/Preconditions"
def TJ3 : u_T := fun k => match k with
  | _ => ("", "", "", false)
def tyJ3 : Nat → FieldType := fun k => match k with
  | _ => .int
theorem nmJ3 : ∀ a, a < 0 → ∀ b, b < 0 → a ≠ b → (TJ3 a).2.1 ≠ (TJ3 b).2.1 := by decide +kernel
theorem tyJ3_ok : ∀ k, k < 0 → parseFieldDescriptor (TJ3 k).2.2.1 = some (tyJ3 k) := by decide +kernel
abbrev cJ3_checkIndex_8e157 : ByteArray := prog_28_method_11_code
def yJ3_checkIndex_8e157 : MethodName := ⟨RJ3, "checkIndex", "(IILjava/util/function/BiFunction;)I"⟩
abbrev cJ3_checkFromToIndex_8c36e : ByteArray := prog_28_method_12_code
def yJ3_checkFromToIndex_8c36e : MethodName := ⟨RJ3, "checkFromToIndex", "(IIILjava/util/function/BiFunction;)I"⟩
abbrev cJ3_checkFromIndexSize_8c36e : ByteArray := prog_28_method_13_code
def yJ3_checkFromIndexSize_8c36e : MethodName := ⟨RJ3, "checkFromIndexSize", "(IIILjava/util/function/BiFunction;)I"⟩
def RL : String := "QuarterpowersLaw"
abbrev cL_quarter : ByteArray := method_2_code
def yL_quarter : MethodName := ⟨RL, "quarter", "(LQuarterpowers;IILQuarterpowersLaw$Out;)I"⟩
abbrev cL_zero : ByteArray := method_3_code
def yL_zero : MethodName := ⟨RL, "zero", "(LQuarterpowers;IZLQuarterpowersLaw$Out;)I"⟩
abbrev cL_endless : ByteArray := method_4_code
def yL_endless : MethodName := ⟨RL, "endless", "(LQuarterpowers;IZLQuarterpowersLaw$Out;)I"⟩
abbrev cL_row : ByteArray := method_5_code
def yL_row : MethodName := ⟨RL, "row", "(LQuarterpowers;IILQuarterpowersLaw$Out;)I"⟩
abbrev cL_copy : ByteArray := method_6_code
def yL_copy : MethodName := ⟨RL, "copy", "(LQuarterpowers;IILQuarterpowersLaw$Out;)I"⟩
abbrev cL_swap : ByteArray := method_7_code
def yL_swap : MethodName := ⟨RL, "swap", "(LQuarterpowers;IILQuarterpowersLaw$Out;)I"⟩
abbrev cL_step : ByteArray := method_8_code
def yL_step : MethodName := ⟨RL, "step", "(LQuarterpowers;IILQuarterpowersLaw$Out;)I"⟩
abbrev cL_turn : ByteArray := method_9_code
def yL_turn : MethodName := ⟨RL, "turn", "(LQuarterpowers;ILQuarterpowersLaw$Out;)I"⟩
abbrev cL_power : ByteArray := method_10_code
def yL_power : MethodName := ⟨RL, "power", "(LQuarterpowers;IILQuarterpowersLaw$Out;)I"⟩
abbrev cL_lessen : ByteArray := method_11_code
def yL_lessen : MethodName := ⟨RL, "lessen", "(LQuarterpowers;IILQuarterpowersLaw$Out;)I"⟩
abbrev cL_log : ByteArray := method_12_code
def yL_log : MethodName := ⟨RL, "log", "(LQuarterpowers;IILQuarterpowersLaw$Out;)I"⟩
abbrev cL_all : ByteArray := method_13_code
def yL_all : MethodName := ⟨RL, "all", "(LQuarterpowers;ILQuarterpowersLaw$Out;)I"⟩
abbrev cL_greater : ByteArray := method_14_code
def yL_greater : MethodName := ⟨RL, "greater", "(LQuarterpowers;IIILQuarterpowersLaw$Out;)I"⟩
abbrev cL_lesser : ByteArray := method_15_code
def yL_lesser : MethodName := ⟨RL, "lesser", "(LQuarterpowers;IIILQuarterpowersLaw$Out;)I"⟩
abbrev cL_end : ByteArray := method_16_code
def yL_end : MethodName := ⟨RL, "end", "(LQuarterpowers;ZILQuarterpowersLaw$Out;)I"⟩
abbrev cL_kind : ByteArray := method_17_code
def yL_kind : MethodName := ⟨RL, "kind", "(LQuarterpowers;ILQuarterpowersLaw$Out;)I"⟩
abbrev cL_of : ByteArray := method_18_code
def yL_of : MethodName := ⟨RL, "of", "(LQuarterpowers;ILQuarterpowersLaw$Out;)I"⟩
abbrev cL_isBelow : ByteArray := method_19_code
def yL_isBelow : MethodName := ⟨RL, "isBelow", "(LQuarterpowers;ILQuarterpowersLaw$Out;)I"⟩
abbrev cL_isZero : ByteArray := method_20_code
def yL_isZero : MethodName := ⟨RL, "isZero", "(LQuarterpowers;ILQuarterpowersLaw$Out;)I"⟩
abbrev cL_isEndless : ByteArray := method_21_code
def yL_isEndless : MethodName := ⟨RL, "isEndless", "(LQuarterpowers;ILQuarterpowersLaw$Out;)I"⟩
abbrev cL_whole : ByteArray := method_22_code
def yL_whole : MethodName := ⟨RL, "whole", "(LQuarterpowers;IILQuarterpowersLaw$Out;)I"⟩
abbrev cL_height : ByteArray := method_23_code
def yL_height : MethodName := ⟨RL, "height", "(LQuarterpowers;ILQuarterpowersLaw$Out;)I"⟩
abbrev cL_digits : ByteArray := method_24_code
def yL_digits : MethodName := ⟨RL, "digits", "(LQuarterpowers;ILQuarterpowersLaw$Out;)I"⟩
abbrev cL_upper : ByteArray := method_25_code
def yL_upper : MethodName := ⟨RL, "upper", "(LQuarterpowers;ILQuarterpowersLaw$Out;)I"⟩
abbrev cL_lower : ByteArray := method_26_code
def yL_lower : MethodName := ⟨RL, "lower", "(LQuarterpowers;ILQuarterpowersLaw$Out;)I"⟩
abbrev cL_text : ByteArray := method_27_code
def yL_text : MethodName := ⟨RL, "text", "(LQuarterpowers;ILQuarterpowersLaw$Out;)I"⟩
abbrev cL_order : ByteArray := method_28_code
def yL_order : MethodName := ⟨RL, "order", "(LQuarterpowers;IILQuarterpowersLaw$Out;)I"⟩
abbrev cL_isAlike : ByteArray := method_29_code
def yL_isAlike : MethodName := ⟨RL, "isAlike", "(LQuarterpowers;IILQuarterpowersLaw$Out;)I"⟩
abbrev cL_isNear : ByteArray := method_30_code
def yL_isNear : MethodName := ⟨RL, "isNear", "(LQuarterpowers;IILQuarterpowersLaw$Out;)I"⟩
abbrev cL_most : ByteArray := method_31_code
def yL_most : MethodName := ⟨RL, "most", "(LQuarterpowers;IILQuarterpowersLaw$Out;)I"⟩
abbrev cL_isWithin : ByteArray := method_32_code
def yL_isWithin : MethodName := ⟨RL, "isWithin", "(LQuarterpowers;IILQuarterpowersLaw$Out;)I"⟩
abbrev cL_find : ByteArray := method_33_code
def yL_find : MethodName := ⟨RL, "find", "(LQuarterpowers;IZLQuarterpowersLaw$Out;)I"⟩
abbrev cL_rank : ByteArray := method_34_code
def yL_rank : MethodName := ⟨RL, "rank", "(LQuarterpowers;ILQuarterpowersLaw$Out;)I"⟩
abbrev cL_before : ByteArray := method_35_code
def yL_before : MethodName := ⟨RL, "before", "(LQuarterpowers;IILQuarterpowersLaw$Out;)I"⟩
abbrev cL_answer : ByteArray := method_36_code
def yL_answer : MethodName := ⟨RL, "answer", "(LQuarterpowers;IIILQuarterpowersLaw$Out;)I"⟩
abbrev cL_below : ByteArray := method_37_code
def yL_below : MethodName := ⟨RL, "below", "(LQuarterpowers;IIILQuarterpowersLaw$Out;)I"⟩
abbrev cL_rises : ByteArray := method_38_code
def yL_rises : MethodName := ⟨RL, "rises", "(LQuarterpowers;IIILQuarterpowersLaw$Out;)I"⟩
abbrev cL_between : ByteArray := method_39_code
def yL_between : MethodName := ⟨RL, "between", "(LQuarterpowers;ILQuarterpowersLaw$Out;)I"⟩
abbrev cL_lies : ByteArray := method_40_code
def yL_lies : MethodName := ⟨RL, "lies", "(LQuarterpowers;ILQuarterpowersLaw$Out;)I"⟩
abbrev cL_undone : ByteArray := method_41_code
def yL_undone : MethodName := ⟨RL, "undone", "(LQuarterpowers;ILQuarterpowersLaw$Out;)I"⟩
abbrev cL_comesBack : ByteArray := method_42_code
def yL_comesBack : MethodName := ⟨RL, "comesBack", "(LQuarterpowers;ILQuarterpowersLaw$Out;)I"⟩
abbrev cL_comesForth : ByteArray := method_43_code
def yL_comesForth : MethodName := ⟨RL, "comesForth", "(LQuarterpowers;ILQuarterpowersLaw$Out;)I"⟩
abbrev cL_opposite : ByteArray := method_44_code
def yL_opposite : MethodName := ⟨RL, "opposite", "(LQuarterpowers;ILQuarterpowersLaw$Out;)I"⟩
abbrev cL_house : ByteArray := method_45_code
def yL_house : MethodName := ⟨RL, "house", "(LQuarterpowers;ILQuarterpowersLaw$Out;)I"⟩
abbrev cL_law : ByteArray := code
def yL_law : MethodName := ⟨RL, "law", "([I)Z"⟩
abbrev vwCl : List vw_C := [(RJ0, TJ0, 4), (RJ4, TJ4, 4), (RX5, TX5, 6), (RX6, TX6, 2), (RX7, TX7, 11)]
def zbR (c : ByteArray) (p : Nat) : Option Nat := (c.data.toList[p]?).map UInt8.toNat
theorem zbR_1 {c : ByteArray} {p n : Nat} (h : zbR c p = some n) : (Reader.u1 : Decoder Nat) c p = .ok (n, p + 1) := by
  unfold zbR at h
  have hl : p < c.data.toList.length := by
    by_cases q : p < c.data.toList.length
    · exact q
    · rw [List.getElem?_eq_none (by omega)] at h
      exact absurd h (by simp)
  have hs : p < c.size := hl
  rw [List.getElem?_eq_getElem hl] at h
  have h2 : (c[p]'hs).toNat = n := by
    simp only [Option.map_some, Option.some.injEq] at h
    exact h
  show (if h : p < c.size then _ else _ : Decoder Nat) c p = _
  rw [dif_pos hs]
  show Except.ok ((c[p]'hs).toNat, p + 1) = _
  rw [h2]
theorem zbR_b {α β : Type} {x : Decoder α} {f : α → Decoder β} {c : ByteArray} {p q : Nat} {a : α} (h : x c p = .ok (a, q)) : (x >>= f) c p = f a c q := by
  show (x c p >>= fun y => f y.1 c y.2) = _
  rw [h]
  rfl
theorem zbR_m {α β : Type} {x : Decoder α} {f : α → β} {c : ByteArray} {p q : Nat} {a : α} (h : x c p = .ok (a, q)) : (f <$> x) c p = .ok (f a, q) := by
  show (x c p >>= fun y => pure (f y.1, y.2)) = _
  rw [h]
  rfl
theorem zbR_d {c : ByteArray} {p n : Nat} {i : Instr} (h : Decoder.instr p c p = .ok (i, p + n)) : decode c p = .ok (i, n) := by
  unfold decode Reader.runAt
  show (Decoder.instr p c p >>= fun x => pure (x.1, x.2 - p)) = _
  rw [h]
  show Except.ok (i, p + n - p) = _
  rw [Nat.add_sub_cancel_left]
theorem zbR_2 {c : ByteArray} {p a b : Nat} (h : zbR c p = some a) (h2 : zbR c (p + 1) = some b) : (Reader.u2 : Decoder Nat) c p = .ok (a * 256 + b, p + 2) := by
  unfold Reader.u2
  rw [zbR_b (zbR_1 h), zbR_b (zbR_1 h2)]
  rfl
theorem zbR_s1 {c : ByteArray} {p a : Nat} (h : zbR c p = some a) : (Reader.s1 : Decoder Int) c p = .ok (Reader.signed 8 a, p + 1) := zbR_m (zbR_1 h)
theorem zbR_s2 {c : ByteArray} {p a b : Nat} (h : zbR c p = some a) (h2 : zbR c (p + 1) = some b) : (Reader.s2 : Decoder Int) c p = .ok (Reader.signed 16 (a * 256 + b), p + 2) := zbR_m (zbR_2 h h2)
def ZOk (o n : Nat) (m : Nat → Nat → Instr) : Prop := ∀ (c : ByteArray) (p a b : Nat), zbR c p = some o → (Nat.ble n 1 = false → zbR c (p + 1) = some a) → (Nat.ble n 2 = false → zbR c (p + 2) = some b) → decode c p = .ok (m a b, n)
abbrev ZOp := { x : Nat × Nat × (Nat → Nat → Instr) // ZOk x.1 x.2.1 x.2.2 }
abbrev ZRw := Nat × ZOp × Nat × Nat
def zbC (a : Nat) : List UInt8 → Bool
  | [] => false
  | o :: _ => Nat.beq o.toNat a
def zdr : Nat → List UInt8 → List UInt8
  | 0, l => l
  | _ + 1, [] => []
  | n + 1, _ :: l => zdr n l
def zck (x : ZOp) (a b : Nat) (l : List UInt8) : Bool := zbC x.1.1 l && (Nat.ble x.1.2.1 1 || (zbC a (zdr 1 l) && (Nat.ble x.1.2.1 2 || zbC b (zdr 2 l))))
def zsb (k : Nat → List UInt8 → Bool) : List ZRw → Nat → List UInt8 → Bool
  | [], q, l => k q l
  | (p, x, a, b) :: r, q, l => match zdr (p - q) l with
    | [] => false
    | o :: l2 => Nat.ble q p && zck x a b (o :: l2) && zsb k r p (o :: l2)
def zsc : List (List ZRw) → Nat → List UInt8 → Bool
  | [], _, _ => true
  | r :: s, q, l => zsb (zsc s) r q l
def dP (c : ByteArray) : List ZRw → Prop
  | [] => True
  | (p, x, a, b) :: r => decode c p = .ok (x.1.2.2 a b, x.1.2.1) ∧ dP c r
def dQ (c : ByteArray) : List (List ZRw) → Prop
  | [] => True
  | r :: s => dP c r ∧ dQ c s
theorem zdr_e : ∀ (n : Nat) (l : List UInt8), zdr n l = l.drop n
  | 0, _ => rfl
  | _ + 1, [] => rfl
  | n + 1, _ :: l => zdr_e n l
theorem zbC_e {c : ByteArray} {p a : Nat} {l : List UInt8} (hl : l = c.data.toList.drop p) (h : zbC a l = true) : zbR c p = some a := by
  unfold zbR
  match l, hl, h with
  | [], _, h => exact absurd h Bool.false_ne_true
  | o :: r, hl, h =>
    have h2 : o.toNat = a := Nat.eq_of_beq_eq_true h
    have h3 : (c.data.toList.drop p)[0]? = some o := by rw [← hl]; rfl
    rw [List.getElem?_drop, Nat.add_zero] at h3
    rw [h3, ← h2]
    rfl
theorem zck_e {c : ByteArray} {p a b : Nat} {x : ZOp} {l : List UInt8} (hl : l = c.data.toList.drop p) (h : zck x a b l = true) : decode c p = .ok (x.1.2.2 a b, x.1.2.1) := by
  unfold zck at h
  rw [Bool.and_eq_true, Bool.or_eq_true, Bool.and_eq_true, Bool.or_eq_true] at h
  refine x.2 c p a b (zbC_e hl h.1) (fun z => ?_) (fun z => ?_)
  · rcases h.2 with y | y
    · rw [z] at y
      exact absurd y (by decide)
    · exact zbC_e (l := zdr 1 l) (by rw [zdr_e, hl, List.drop_drop]) y.1
  · rcases h.2 with y | y
    · have y2 := Nat.le_of_ble_eq_true y
      have : Nat.ble x.1.2.1 2 = true := Nat.ble_eq_true_of_le (by omega)
      rw [z] at this
      exact absurd this (by decide)
    · rcases y.2 with w | w
      · rw [z] at w
        exact absurd w (by decide)
      · exact zbC_e (l := zdr 2 l) (by rw [zdr_e, hl, List.drop_drop]) w
theorem zsb_e {c : ByteArray} {k : Nat → List UInt8 → Bool} {Q : Prop} (hk : ∀ q l, l = c.data.toList.drop q → k q l = true → Q) : ∀ (r : List ZRw) (q : Nat) (l : List UInt8), l = c.data.toList.drop q → zsb k r q l = true → dP c r ∧ Q
  | [], q, l, hl, h => ⟨trivial, hk q l hl h⟩
  | (p, x, a, b) :: r, q, l, hl, h => by
    rw [zsb] at h
    match e : zdr (p - q) l with
    | [] =>
      rw [e] at h
      exact absurd h Bool.false_ne_true
    | o :: l2 =>
      rw [e] at h
      simp only [Bool.and_eq_true] at h
      have hq := Nat.le_of_ble_eq_true h.1.1
      have hl2 : o :: l2 = c.data.toList.drop p := by rw [← e, zdr_e, hl, List.drop_drop, show q + (p - q) = p by omega]
      have w := zsb_e hk r p (o :: l2) hl2 h.2
      exact ⟨⟨zck_e hl2 h.1.2, w.1⟩, w.2⟩
theorem zsc_e {c : ByteArray} : ∀ (s : List (List ZRw)) (q : Nat) (l : List UInt8), l = c.data.toList.drop q → zsc s q l = true → dQ c s
  | [], _, _, _, _ => trivial
  | r :: s, q, l, hl, h => zsb_e (fun q l hl h => zsc_e s q l hl h) r q l hl h
theorem dQ_of (c : ByteArray) (s : List (List ZRw)) (h : zsc s 0 c.data.toList = true) : dQ c s := zsc_e s 0 _ (by rw [List.drop_zero]) h
def zop1 : ZOp := ⟨(1, 1, fun _ _ => .aconst_null), fun c p _ _ h _ _ => zbR_d (show Decoder.instr p c p = .ok (.aconst_null, p + 1) from (zbR_b (zbR_1 h)).trans (rfl))⟩
def zop2 : ZOp := ⟨(2, 1, fun _ _ => .iconst (-1)), fun c p _ _ h _ _ => zbR_d (show Decoder.instr p c p = .ok (.iconst (-1), p + 1) from (zbR_b (zbR_1 h)).trans (rfl))⟩
def zop3 : ZOp := ⟨(3, 1, fun _ _ => .iconst 0), fun c p _ _ h _ _ => zbR_d (show Decoder.instr p c p = .ok (.iconst 0, p + 1) from (zbR_b (zbR_1 h)).trans (rfl))⟩
def zop4 : ZOp := ⟨(4, 1, fun _ _ => .iconst 1), fun c p _ _ h _ _ => zbR_d (show Decoder.instr p c p = .ok (.iconst 1, p + 1) from (zbR_b (zbR_1 h)).trans (rfl))⟩
def zop5 : ZOp := ⟨(5, 1, fun _ _ => .iconst 2), fun c p _ _ h _ _ => zbR_d (show Decoder.instr p c p = .ok (.iconst 2, p + 1) from (zbR_b (zbR_1 h)).trans (rfl))⟩
def zop6 : ZOp := ⟨(6, 1, fun _ _ => .iconst 3), fun c p _ _ h _ _ => zbR_d (show Decoder.instr p c p = .ok (.iconst 3, p + 1) from (zbR_b (zbR_1 h)).trans (rfl))⟩
def zop7 : ZOp := ⟨(7, 1, fun _ _ => .iconst 4), fun c p _ _ h _ _ => zbR_d (show Decoder.instr p c p = .ok (.iconst 4, p + 1) from (zbR_b (zbR_1 h)).trans (rfl))⟩
def zop8 : ZOp := ⟨(8, 1, fun _ _ => .iconst 5), fun c p _ _ h _ _ => zbR_d (show Decoder.instr p c p = .ok (.iconst 5, p + 1) from (zbR_b (zbR_1 h)).trans (rfl))⟩
def zop9 : ZOp := ⟨(9, 1, fun _ _ => .lconst 0), fun c p _ _ h _ _ => zbR_d (show Decoder.instr p c p = .ok (.lconst 0, p + 1) from (zbR_b (zbR_1 h)).trans (rfl))⟩
def zop10 : ZOp := ⟨(10, 1, fun _ _ => .lconst 1), fun c p _ _ h _ _ => zbR_d (show Decoder.instr p c p = .ok (.lconst 1, p + 1) from (zbR_b (zbR_1 h)).trans (rfl))⟩
def zop14 : ZOp := ⟨(14, 1, fun _ _ => .dconst 0), fun c p _ _ h _ _ => zbR_d (show Decoder.instr p c p = .ok (.dconst 0, p + 1) from (zbR_b (zbR_1 h)).trans (rfl))⟩
def zop15 : ZOp := ⟨(15, 1, fun _ _ => .dconst 1), fun c p _ _ h _ _ => zbR_d (show Decoder.instr p c p = .ok (.dconst 1, p + 1) from (zbR_b (zbR_1 h)).trans (rfl))⟩
def zop16 : ZOp := ⟨(16, 2, fun a _ => .bipush (Reader.signed 8 a)), fun c p a _ h h1 _ => zbR_d (show Decoder.instr p c p = .ok (.bipush (Reader.signed 8 a), p + 2) from (zbR_b (zbR_1 h)).trans (zbR_b (zbR_s1 (h1 rfl))))⟩
def zop17 : ZOp := ⟨(17, 3, fun a b => .sipush (Reader.signed 16 (a * 256 + b))), fun c p a b h h1 h2 => zbR_d (show Decoder.instr p c p = .ok (.sipush (Reader.signed 16 (a * 256 + b)), p + 3) from (zbR_b (zbR_1 h)).trans (zbR_b (zbR_s2 (h1 rfl) (h2 rfl))))⟩
def zop18 : ZOp := ⟨(18, 2, fun a _ => .ldc a), fun c p a _ h h1 _ => zbR_d (show Decoder.instr p c p = .ok (.ldc a, p + 2) from (zbR_b (zbR_1 h)).trans (zbR_b (zbR_1 (h1 rfl))))⟩
def zop19 : ZOp := ⟨(19, 3, fun a b => .ldc_w (a * 256 + b)), fun c p a b h h1 h2 => zbR_d (show Decoder.instr p c p = .ok (.ldc_w (a * 256 + b), p + 3) from (zbR_b (zbR_1 h)).trans (zbR_b (zbR_2 (h1 rfl) (h2 rfl))))⟩
def zop20 : ZOp := ⟨(20, 3, fun a b => .ldc2_w (a * 256 + b)), fun c p a b h h1 h2 => zbR_d (show Decoder.instr p c p = .ok (.ldc2_w (a * 256 + b), p + 3) from (zbR_b (zbR_1 h)).trans (zbR_b (zbR_2 (h1 rfl) (h2 rfl))))⟩
def zop21 : ZOp := ⟨(21, 2, fun a _ => .iload a), fun c p a _ h h1 _ => zbR_d (show Decoder.instr p c p = .ok (.iload a, p + 2) from (zbR_b (zbR_1 h)).trans (zbR_b (zbR_1 (h1 rfl))))⟩
def zop22 : ZOp := ⟨(22, 2, fun a _ => .lload a), fun c p a _ h h1 _ => zbR_d (show Decoder.instr p c p = .ok (.lload a, p + 2) from (zbR_b (zbR_1 h)).trans (zbR_b (zbR_1 (h1 rfl))))⟩
def zop24 : ZOp := ⟨(24, 2, fun a _ => .dload a), fun c p a _ h h1 _ => zbR_d (show Decoder.instr p c p = .ok (.dload a, p + 2) from (zbR_b (zbR_1 h)).trans (zbR_b (zbR_1 (h1 rfl))))⟩
def zop25 : ZOp := ⟨(25, 2, fun a _ => .aload a), fun c p a _ h h1 _ => zbR_d (show Decoder.instr p c p = .ok (.aload a, p + 2) from (zbR_b (zbR_1 h)).trans (zbR_b (zbR_1 (h1 rfl))))⟩
def zop26 : ZOp := ⟨(26, 1, fun _ _ => .iload_n 0), fun c p _ _ h _ _ => zbR_d (show Decoder.instr p c p = .ok (.iload_n 0, p + 1) from (zbR_b (zbR_1 h)).trans (rfl))⟩
def zop27 : ZOp := ⟨(27, 1, fun _ _ => .iload_n 1), fun c p _ _ h _ _ => zbR_d (show Decoder.instr p c p = .ok (.iload_n 1, p + 1) from (zbR_b (zbR_1 h)).trans (rfl))⟩
def zop28 : ZOp := ⟨(28, 1, fun _ _ => .iload_n 2), fun c p _ _ h _ _ => zbR_d (show Decoder.instr p c p = .ok (.iload_n 2, p + 1) from (zbR_b (zbR_1 h)).trans (rfl))⟩
def zop29 : ZOp := ⟨(29, 1, fun _ _ => .iload_n 3), fun c p _ _ h _ _ => zbR_d (show Decoder.instr p c p = .ok (.iload_n 3, p + 1) from (zbR_b (zbR_1 h)).trans (rfl))⟩
def zop30 : ZOp := ⟨(30, 1, fun _ _ => .lload_n 0), fun c p _ _ h _ _ => zbR_d (show Decoder.instr p c p = .ok (.lload_n 0, p + 1) from (zbR_b (zbR_1 h)).trans (rfl))⟩
def zop31 : ZOp := ⟨(31, 1, fun _ _ => .lload_n 1), fun c p _ _ h _ _ => zbR_d (show Decoder.instr p c p = .ok (.lload_n 1, p + 1) from (zbR_b (zbR_1 h)).trans (rfl))⟩
def zop32 : ZOp := ⟨(32, 1, fun _ _ => .lload_n 2), fun c p _ _ h _ _ => zbR_d (show Decoder.instr p c p = .ok (.lload_n 2, p + 1) from (zbR_b (zbR_1 h)).trans (rfl))⟩
def zop33 : ZOp := ⟨(33, 1, fun _ _ => .lload_n 3), fun c p _ _ h _ _ => zbR_d (show Decoder.instr p c p = .ok (.lload_n 3, p + 1) from (zbR_b (zbR_1 h)).trans (rfl))⟩
def zop38 : ZOp := ⟨(38, 1, fun _ _ => .dload_n 0), fun c p _ _ h _ _ => zbR_d (show Decoder.instr p c p = .ok (.dload_n 0, p + 1) from (zbR_b (zbR_1 h)).trans (rfl))⟩
def zop40 : ZOp := ⟨(40, 1, fun _ _ => .dload_n 2), fun c p _ _ h _ _ => zbR_d (show Decoder.instr p c p = .ok (.dload_n 2, p + 1) from (zbR_b (zbR_1 h)).trans (rfl))⟩
def zop42 : ZOp := ⟨(42, 1, fun _ _ => .aload_n 0), fun c p _ _ h _ _ => zbR_d (show Decoder.instr p c p = .ok (.aload_n 0, p + 1) from (zbR_b (zbR_1 h)).trans (rfl))⟩
def zop43 : ZOp := ⟨(43, 1, fun _ _ => .aload_n 1), fun c p _ _ h _ _ => zbR_d (show Decoder.instr p c p = .ok (.aload_n 1, p + 1) from (zbR_b (zbR_1 h)).trans (rfl))⟩
def zop44 : ZOp := ⟨(44, 1, fun _ _ => .aload_n 2), fun c p _ _ h _ _ => zbR_d (show Decoder.instr p c p = .ok (.aload_n 2, p + 1) from (zbR_b (zbR_1 h)).trans (rfl))⟩
def zop45 : ZOp := ⟨(45, 1, fun _ _ => .aload_n 3), fun c p _ _ h _ _ => zbR_d (show Decoder.instr p c p = .ok (.aload_n 3, p + 1) from (zbR_b (zbR_1 h)).trans (rfl))⟩
def zop46 : ZOp := ⟨(46, 1, fun _ _ => .iaload), fun c p _ _ h _ _ => zbR_d (show Decoder.instr p c p = .ok (.iaload, p + 1) from (zbR_b (zbR_1 h)).trans (rfl))⟩
def zop47 : ZOp := ⟨(47, 1, fun _ _ => .laload), fun c p _ _ h _ _ => zbR_d (show Decoder.instr p c p = .ok (.laload, p + 1) from (zbR_b (zbR_1 h)).trans (rfl))⟩
def zop50 : ZOp := ⟨(50, 1, fun _ _ => .aaload), fun c p _ _ h _ _ => zbR_d (show Decoder.instr p c p = .ok (.aaload, p + 1) from (zbR_b (zbR_1 h)).trans (rfl))⟩
def zop51 : ZOp := ⟨(51, 1, fun _ _ => .baload), fun c p _ _ h _ _ => zbR_d (show Decoder.instr p c p = .ok (.baload, p + 1) from (zbR_b (zbR_1 h)).trans (rfl))⟩
def zop54 : ZOp := ⟨(54, 2, fun a _ => .istore a), fun c p a _ h h1 _ => zbR_d (show Decoder.instr p c p = .ok (.istore a, p + 2) from (zbR_b (zbR_1 h)).trans (zbR_b (zbR_1 (h1 rfl))))⟩
def zop55 : ZOp := ⟨(55, 2, fun a _ => .lstore a), fun c p a _ h h1 _ => zbR_d (show Decoder.instr p c p = .ok (.lstore a, p + 2) from (zbR_b (zbR_1 h)).trans (zbR_b (zbR_1 (h1 rfl))))⟩
def zop57 : ZOp := ⟨(57, 2, fun a _ => .dstore a), fun c p a _ h h1 _ => zbR_d (show Decoder.instr p c p = .ok (.dstore a, p + 2) from (zbR_b (zbR_1 h)).trans (zbR_b (zbR_1 (h1 rfl))))⟩
def zop58 : ZOp := ⟨(58, 2, fun a _ => .astore a), fun c p a _ h h1 _ => zbR_d (show Decoder.instr p c p = .ok (.astore a, p + 2) from (zbR_b (zbR_1 h)).trans (zbR_b (zbR_1 (h1 rfl))))⟩
def zop59 : ZOp := ⟨(59, 1, fun _ _ => .istore_n 0), fun c p _ _ h _ _ => zbR_d (show Decoder.instr p c p = .ok (.istore_n 0, p + 1) from (zbR_b (zbR_1 h)).trans (rfl))⟩
def zop60 : ZOp := ⟨(60, 1, fun _ _ => .istore_n 1), fun c p _ _ h _ _ => zbR_d (show Decoder.instr p c p = .ok (.istore_n 1, p + 1) from (zbR_b (zbR_1 h)).trans (rfl))⟩
def zop61 : ZOp := ⟨(61, 1, fun _ _ => .istore_n 2), fun c p _ _ h _ _ => zbR_d (show Decoder.instr p c p = .ok (.istore_n 2, p + 1) from (zbR_b (zbR_1 h)).trans (rfl))⟩
def zop62 : ZOp := ⟨(62, 1, fun _ _ => .istore_n 3), fun c p _ _ h _ _ => zbR_d (show Decoder.instr p c p = .ok (.istore_n 3, p + 1) from (zbR_b (zbR_1 h)).trans (rfl))⟩
def zop64 : ZOp := ⟨(64, 1, fun _ _ => .lstore_n 1), fun c p _ _ h _ _ => zbR_d (show Decoder.instr p c p = .ok (.lstore_n 1, p + 1) from (zbR_b (zbR_1 h)).trans (rfl))⟩
def zop65 : ZOp := ⟨(65, 1, fun _ _ => .lstore_n 2), fun c p _ _ h _ _ => zbR_d (show Decoder.instr p c p = .ok (.lstore_n 2, p + 1) from (zbR_b (zbR_1 h)).trans (rfl))⟩
def zop66 : ZOp := ⟨(66, 1, fun _ _ => .lstore_n 3), fun c p _ _ h _ _ => zbR_d (show Decoder.instr p c p = .ok (.lstore_n 3, p + 1) from (zbR_b (zbR_1 h)).trans (rfl))⟩
def zop73 : ZOp := ⟨(73, 1, fun _ _ => .dstore_n 2), fun c p _ _ h _ _ => zbR_d (show Decoder.instr p c p = .ok (.dstore_n 2, p + 1) from (zbR_b (zbR_1 h)).trans (rfl))⟩
def zop76 : ZOp := ⟨(76, 1, fun _ _ => .astore_n 1), fun c p _ _ h _ _ => zbR_d (show Decoder.instr p c p = .ok (.astore_n 1, p + 1) from (zbR_b (zbR_1 h)).trans (rfl))⟩
def zop77 : ZOp := ⟨(77, 1, fun _ _ => .astore_n 2), fun c p _ _ h _ _ => zbR_d (show Decoder.instr p c p = .ok (.astore_n 2, p + 1) from (zbR_b (zbR_1 h)).trans (rfl))⟩
def zop78 : ZOp := ⟨(78, 1, fun _ _ => .astore_n 3), fun c p _ _ h _ _ => zbR_d (show Decoder.instr p c p = .ok (.astore_n 3, p + 1) from (zbR_b (zbR_1 h)).trans (rfl))⟩
def zop79 : ZOp := ⟨(79, 1, fun _ _ => .iastore), fun c p _ _ h _ _ => zbR_d (show Decoder.instr p c p = .ok (.iastore, p + 1) from (zbR_b (zbR_1 h)).trans (rfl))⟩
def zop80 : ZOp := ⟨(80, 1, fun _ _ => .lastore), fun c p _ _ h _ _ => zbR_d (show Decoder.instr p c p = .ok (.lastore, p + 1) from (zbR_b (zbR_1 h)).trans (rfl))⟩
def zop83 : ZOp := ⟨(83, 1, fun _ _ => .aastore), fun c p _ _ h _ _ => zbR_d (show Decoder.instr p c p = .ok (.aastore, p + 1) from (zbR_b (zbR_1 h)).trans (rfl))⟩
def zop84 : ZOp := ⟨(84, 1, fun _ _ => .bastore), fun c p _ _ h _ _ => zbR_d (show Decoder.instr p c p = .ok (.bastore, p + 1) from (zbR_b (zbR_1 h)).trans (rfl))⟩
def zop87 : ZOp := ⟨(87, 1, fun _ _ => .pop), fun c p _ _ h _ _ => zbR_d (show Decoder.instr p c p = .ok (.pop, p + 1) from (zbR_b (zbR_1 h)).trans (rfl))⟩
def zop88 : ZOp := ⟨(88, 1, fun _ _ => .pop2), fun c p _ _ h _ _ => zbR_d (show Decoder.instr p c p = .ok (.pop2, p + 1) from (zbR_b (zbR_1 h)).trans (rfl))⟩
def zop89 : ZOp := ⟨(89, 1, fun _ _ => .dup), fun c p _ _ h _ _ => zbR_d (show Decoder.instr p c p = .ok (.dup, p + 1) from (zbR_b (zbR_1 h)).trans (rfl))⟩
def zop90 : ZOp := ⟨(90, 1, fun _ _ => .dup_x1), fun c p _ _ h _ _ => zbR_d (show Decoder.instr p c p = .ok (.dup_x1, p + 1) from (zbR_b (zbR_1 h)).trans (rfl))⟩
def zop92 : ZOp := ⟨(92, 1, fun _ _ => .dup2), fun c p _ _ h _ _ => zbR_d (show Decoder.instr p c p = .ok (.dup2, p + 1) from (zbR_b (zbR_1 h)).trans (rfl))⟩
def zop96 : ZOp := ⟨(96, 1, fun _ _ => .iadd), fun c p _ _ h _ _ => zbR_d (show Decoder.instr p c p = .ok (.iadd, p + 1) from (zbR_b (zbR_1 h)).trans (rfl))⟩
def zop97 : ZOp := ⟨(97, 1, fun _ _ => .ladd), fun c p _ _ h _ _ => zbR_d (show Decoder.instr p c p = .ok (.ladd, p + 1) from (zbR_b (zbR_1 h)).trans (rfl))⟩
def zop100 : ZOp := ⟨(100, 1, fun _ _ => .isub), fun c p _ _ h _ _ => zbR_d (show Decoder.instr p c p = .ok (.isub, p + 1) from (zbR_b (zbR_1 h)).trans (rfl))⟩
def zop101 : ZOp := ⟨(101, 1, fun _ _ => .lsub), fun c p _ _ h _ _ => zbR_d (show Decoder.instr p c p = .ok (.lsub, p + 1) from (zbR_b (zbR_1 h)).trans (rfl))⟩
def zop103 : ZOp := ⟨(103, 1, fun _ _ => .dsub), fun c p _ _ h _ _ => zbR_d (show Decoder.instr p c p = .ok (.dsub, p + 1) from (zbR_b (zbR_1 h)).trans (rfl))⟩
def zop104 : ZOp := ⟨(104, 1, fun _ _ => .imul), fun c p _ _ h _ _ => zbR_d (show Decoder.instr p c p = .ok (.imul, p + 1) from (zbR_b (zbR_1 h)).trans (rfl))⟩
def zop105 : ZOp := ⟨(105, 1, fun _ _ => .lmul), fun c p _ _ h _ _ => zbR_d (show Decoder.instr p c p = .ok (.lmul, p + 1) from (zbR_b (zbR_1 h)).trans (rfl))⟩
def zop107 : ZOp := ⟨(107, 1, fun _ _ => .dmul), fun c p _ _ h _ _ => zbR_d (show Decoder.instr p c p = .ok (.dmul, p + 1) from (zbR_b (zbR_1 h)).trans (rfl))⟩
def zop108 : ZOp := ⟨(108, 1, fun _ _ => .idiv), fun c p _ _ h _ _ => zbR_d (show Decoder.instr p c p = .ok (.idiv, p + 1) from (zbR_b (zbR_1 h)).trans (rfl))⟩
def zop109 : ZOp := ⟨(109, 1, fun _ _ => .ldiv), fun c p _ _ h _ _ => zbR_d (show Decoder.instr p c p = .ok (.ldiv, p + 1) from (zbR_b (zbR_1 h)).trans (rfl))⟩
def zop111 : ZOp := ⟨(111, 1, fun _ _ => .ddiv), fun c p _ _ h _ _ => zbR_d (show Decoder.instr p c p = .ok (.ddiv, p + 1) from (zbR_b (zbR_1 h)).trans (rfl))⟩
def zop112 : ZOp := ⟨(112, 1, fun _ _ => .irem), fun c p _ _ h _ _ => zbR_d (show Decoder.instr p c p = .ok (.irem, p + 1) from (zbR_b (zbR_1 h)).trans (rfl))⟩
def zop113 : ZOp := ⟨(113, 1, fun _ _ => .lrem), fun c p _ _ h _ _ => zbR_d (show Decoder.instr p c p = .ok (.lrem, p + 1) from (zbR_b (zbR_1 h)).trans (rfl))⟩
def zop116 : ZOp := ⟨(116, 1, fun _ _ => .ineg), fun c p _ _ h _ _ => zbR_d (show Decoder.instr p c p = .ok (.ineg, p + 1) from (zbR_b (zbR_1 h)).trans (rfl))⟩
def zop117 : ZOp := ⟨(117, 1, fun _ _ => .lneg), fun c p _ _ h _ _ => zbR_d (show Decoder.instr p c p = .ok (.lneg, p + 1) from (zbR_b (zbR_1 h)).trans (rfl))⟩
def zop119 : ZOp := ⟨(119, 1, fun _ _ => .dneg), fun c p _ _ h _ _ => zbR_d (show Decoder.instr p c p = .ok (.dneg, p + 1) from (zbR_b (zbR_1 h)).trans (rfl))⟩
def zop120 : ZOp := ⟨(120, 1, fun _ _ => .ishl), fun c p _ _ h _ _ => zbR_d (show Decoder.instr p c p = .ok (.ishl, p + 1) from (zbR_b (zbR_1 h)).trans (rfl))⟩
def zop121 : ZOp := ⟨(121, 1, fun _ _ => .lshl), fun c p _ _ h _ _ => zbR_d (show Decoder.instr p c p = .ok (.lshl, p + 1) from (zbR_b (zbR_1 h)).trans (rfl))⟩
def zop122 : ZOp := ⟨(122, 1, fun _ _ => .ishr), fun c p _ _ h _ _ => zbR_d (show Decoder.instr p c p = .ok (.ishr, p + 1) from (zbR_b (zbR_1 h)).trans (rfl))⟩
def zop123 : ZOp := ⟨(123, 1, fun _ _ => .lshr), fun c p _ _ h _ _ => zbR_d (show Decoder.instr p c p = .ok (.lshr, p + 1) from (zbR_b (zbR_1 h)).trans (rfl))⟩
def zop124 : ZOp := ⟨(124, 1, fun _ _ => .iushr), fun c p _ _ h _ _ => zbR_d (show Decoder.instr p c p = .ok (.iushr, p + 1) from (zbR_b (zbR_1 h)).trans (rfl))⟩
def zop125 : ZOp := ⟨(125, 1, fun _ _ => .lushr), fun c p _ _ h _ _ => zbR_d (show Decoder.instr p c p = .ok (.lushr, p + 1) from (zbR_b (zbR_1 h)).trans (rfl))⟩
def zop126 : ZOp := ⟨(126, 1, fun _ _ => .iand), fun c p _ _ h _ _ => zbR_d (show Decoder.instr p c p = .ok (.iand, p + 1) from (zbR_b (zbR_1 h)).trans (rfl))⟩
def zop127 : ZOp := ⟨(127, 1, fun _ _ => .land), fun c p _ _ h _ _ => zbR_d (show Decoder.instr p c p = .ok (.land, p + 1) from (zbR_b (zbR_1 h)).trans (rfl))⟩
def zop128 : ZOp := ⟨(128, 1, fun _ _ => .ior), fun c p _ _ h _ _ => zbR_d (show Decoder.instr p c p = .ok (.ior, p + 1) from (zbR_b (zbR_1 h)).trans (rfl))⟩
def zop129 : ZOp := ⟨(129, 1, fun _ _ => .lor), fun c p _ _ h _ _ => zbR_d (show Decoder.instr p c p = .ok (.lor, p + 1) from (zbR_b (zbR_1 h)).trans (rfl))⟩
def zop130 : ZOp := ⟨(130, 1, fun _ _ => .ixor), fun c p _ _ h _ _ => zbR_d (show Decoder.instr p c p = .ok (.ixor, p + 1) from (zbR_b (zbR_1 h)).trans (rfl))⟩
def zop132 : ZOp := ⟨(132, 3, fun a b => .iinc a (Reader.signed 8 b)), fun c p a b h h1 h2 => zbR_d (show Decoder.instr p c p = .ok (.iinc a (Reader.signed 8 b), p + 3) from (zbR_b (zbR_1 h)).trans ((zbR_b (zbR_1 (h1 rfl))).trans (zbR_b (zbR_s1 (h2 rfl)))))⟩
def zop133 : ZOp := ⟨(133, 1, fun _ _ => .i2l), fun c p _ _ h _ _ => zbR_d (show Decoder.instr p c p = .ok (.i2l, p + 1) from (zbR_b (zbR_1 h)).trans (rfl))⟩
def zop136 : ZOp := ⟨(136, 1, fun _ _ => .l2i), fun c p _ _ h _ _ => zbR_d (show Decoder.instr p c p = .ok (.l2i, p + 1) from (zbR_b (zbR_1 h)).trans (rfl))⟩
def zop138 : ZOp := ⟨(138, 1, fun _ _ => .l2d), fun c p _ _ h _ _ => zbR_d (show Decoder.instr p c p = .ok (.l2d, p + 1) from (zbR_b (zbR_1 h)).trans (rfl))⟩
def zop145 : ZOp := ⟨(145, 1, fun _ _ => .i2b), fun c p _ _ h _ _ => zbR_d (show Decoder.instr p c p = .ok (.i2b, p + 1) from (zbR_b (zbR_1 h)).trans (rfl))⟩
def zop146 : ZOp := ⟨(146, 1, fun _ _ => .i2c), fun c p _ _ h _ _ => zbR_d (show Decoder.instr p c p = .ok (.i2c, p + 1) from (zbR_b (zbR_1 h)).trans (rfl))⟩
def zop148 : ZOp := ⟨(148, 1, fun _ _ => .lcmp), fun c p _ _ h _ _ => zbR_d (show Decoder.instr p c p = .ok (.lcmp, p + 1) from (zbR_b (zbR_1 h)).trans (rfl))⟩
def zop151 : ZOp := ⟨(151, 1, fun _ _ => .dcmp .l), fun c p _ _ h _ _ => zbR_d (show Decoder.instr p c p = .ok (.dcmp .l, p + 1) from (zbR_b (zbR_1 h)).trans (rfl))⟩
def zop152 : ZOp := ⟨(152, 1, fun _ _ => .dcmp .g), fun c p _ _ h _ _ => zbR_d (show Decoder.instr p c p = .ok (.dcmp .g, p + 1) from (zbR_b (zbR_1 h)).trans (rfl))⟩
def zop153 : ZOp := ⟨(153, 3, fun a b => .ifCond .eq (Reader.signed 16 (a * 256 + b))), fun c p a b h h1 h2 => zbR_d (show Decoder.instr p c p = .ok (.ifCond .eq (Reader.signed 16 (a * 256 + b)), p + 3) from (zbR_b (zbR_1 h)).trans (zbR_b (zbR_s2 (h1 rfl) (h2 rfl))))⟩
def zop154 : ZOp := ⟨(154, 3, fun a b => .ifCond .ne (Reader.signed 16 (a * 256 + b))), fun c p a b h h1 h2 => zbR_d (show Decoder.instr p c p = .ok (.ifCond .ne (Reader.signed 16 (a * 256 + b)), p + 3) from (zbR_b (zbR_1 h)).trans (zbR_b (zbR_s2 (h1 rfl) (h2 rfl))))⟩
def zop155 : ZOp := ⟨(155, 3, fun a b => .ifCond .lt (Reader.signed 16 (a * 256 + b))), fun c p a b h h1 h2 => zbR_d (show Decoder.instr p c p = .ok (.ifCond .lt (Reader.signed 16 (a * 256 + b)), p + 3) from (zbR_b (zbR_1 h)).trans (zbR_b (zbR_s2 (h1 rfl) (h2 rfl))))⟩
def zop156 : ZOp := ⟨(156, 3, fun a b => .ifCond .ge (Reader.signed 16 (a * 256 + b))), fun c p a b h h1 h2 => zbR_d (show Decoder.instr p c p = .ok (.ifCond .ge (Reader.signed 16 (a * 256 + b)), p + 3) from (zbR_b (zbR_1 h)).trans (zbR_b (zbR_s2 (h1 rfl) (h2 rfl))))⟩
def zop157 : ZOp := ⟨(157, 3, fun a b => .ifCond .gt (Reader.signed 16 (a * 256 + b))), fun c p a b h h1 h2 => zbR_d (show Decoder.instr p c p = .ok (.ifCond .gt (Reader.signed 16 (a * 256 + b)), p + 3) from (zbR_b (zbR_1 h)).trans (zbR_b (zbR_s2 (h1 rfl) (h2 rfl))))⟩
def zop158 : ZOp := ⟨(158, 3, fun a b => .ifCond .le (Reader.signed 16 (a * 256 + b))), fun c p a b h h1 h2 => zbR_d (show Decoder.instr p c p = .ok (.ifCond .le (Reader.signed 16 (a * 256 + b)), p + 3) from (zbR_b (zbR_1 h)).trans (zbR_b (zbR_s2 (h1 rfl) (h2 rfl))))⟩
def zop159 : ZOp := ⟨(159, 3, fun a b => .if_icmp .eq (Reader.signed 16 (a * 256 + b))), fun c p a b h h1 h2 => zbR_d (show Decoder.instr p c p = .ok (.if_icmp .eq (Reader.signed 16 (a * 256 + b)), p + 3) from (zbR_b (zbR_1 h)).trans (zbR_b (zbR_s2 (h1 rfl) (h2 rfl))))⟩
def zop160 : ZOp := ⟨(160, 3, fun a b => .if_icmp .ne (Reader.signed 16 (a * 256 + b))), fun c p a b h h1 h2 => zbR_d (show Decoder.instr p c p = .ok (.if_icmp .ne (Reader.signed 16 (a * 256 + b)), p + 3) from (zbR_b (zbR_1 h)).trans (zbR_b (zbR_s2 (h1 rfl) (h2 rfl))))⟩
def zop161 : ZOp := ⟨(161, 3, fun a b => .if_icmp .lt (Reader.signed 16 (a * 256 + b))), fun c p a b h h1 h2 => zbR_d (show Decoder.instr p c p = .ok (.if_icmp .lt (Reader.signed 16 (a * 256 + b)), p + 3) from (zbR_b (zbR_1 h)).trans (zbR_b (zbR_s2 (h1 rfl) (h2 rfl))))⟩
def zop162 : ZOp := ⟨(162, 3, fun a b => .if_icmp .ge (Reader.signed 16 (a * 256 + b))), fun c p a b h h1 h2 => zbR_d (show Decoder.instr p c p = .ok (.if_icmp .ge (Reader.signed 16 (a * 256 + b)), p + 3) from (zbR_b (zbR_1 h)).trans (zbR_b (zbR_s2 (h1 rfl) (h2 rfl))))⟩
def zop163 : ZOp := ⟨(163, 3, fun a b => .if_icmp .gt (Reader.signed 16 (a * 256 + b))), fun c p a b h h1 h2 => zbR_d (show Decoder.instr p c p = .ok (.if_icmp .gt (Reader.signed 16 (a * 256 + b)), p + 3) from (zbR_b (zbR_1 h)).trans (zbR_b (zbR_s2 (h1 rfl) (h2 rfl))))⟩
def zop164 : ZOp := ⟨(164, 3, fun a b => .if_icmp .le (Reader.signed 16 (a * 256 + b))), fun c p a b h h1 h2 => zbR_d (show Decoder.instr p c p = .ok (.if_icmp .le (Reader.signed 16 (a * 256 + b)), p + 3) from (zbR_b (zbR_1 h)).trans (zbR_b (zbR_s2 (h1 rfl) (h2 rfl))))⟩
def zop167 : ZOp := ⟨(167, 3, fun a b => .goto (Reader.signed 16 (a * 256 + b))), fun c p a b h h1 h2 => zbR_d (show Decoder.instr p c p = .ok (.goto (Reader.signed 16 (a * 256 + b)), p + 3) from (zbR_b (zbR_1 h)).trans (zbR_b (zbR_s2 (h1 rfl) (h2 rfl))))⟩
def zop172 : ZOp := ⟨(172, 1, fun _ _ => .ireturn), fun c p _ _ h _ _ => zbR_d (show Decoder.instr p c p = .ok (.ireturn, p + 1) from (zbR_b (zbR_1 h)).trans (rfl))⟩
def zop173 : ZOp := ⟨(173, 1, fun _ _ => .lreturn), fun c p _ _ h _ _ => zbR_d (show Decoder.instr p c p = .ok (.lreturn, p + 1) from (zbR_b (zbR_1 h)).trans (rfl))⟩
def zop175 : ZOp := ⟨(175, 1, fun _ _ => .dreturn), fun c p _ _ h _ _ => zbR_d (show Decoder.instr p c p = .ok (.dreturn, p + 1) from (zbR_b (zbR_1 h)).trans (rfl))⟩
def zop176 : ZOp := ⟨(176, 1, fun _ _ => .areturn), fun c p _ _ h _ _ => zbR_d (show Decoder.instr p c p = .ok (.areturn, p + 1) from (zbR_b (zbR_1 h)).trans (rfl))⟩
def zop177 : ZOp := ⟨(177, 1, fun _ _ => .return_), fun c p _ _ h _ _ => zbR_d (show Decoder.instr p c p = .ok (.return_, p + 1) from (zbR_b (zbR_1 h)).trans (rfl))⟩
def zop178 : ZOp := ⟨(178, 3, fun a b => .getstatic (a * 256 + b)), fun c p a b h h1 h2 => zbR_d (show Decoder.instr p c p = .ok (.getstatic (a * 256 + b), p + 3) from (zbR_b (zbR_1 h)).trans (zbR_b (zbR_2 (h1 rfl) (h2 rfl))))⟩
def zop180 : ZOp := ⟨(180, 3, fun a b => .getfield (a * 256 + b)), fun c p a b h h1 h2 => zbR_d (show Decoder.instr p c p = .ok (.getfield (a * 256 + b), p + 3) from (zbR_b (zbR_1 h)).trans (zbR_b (zbR_2 (h1 rfl) (h2 rfl))))⟩
def zop181 : ZOp := ⟨(181, 3, fun a b => .putfield (a * 256 + b)), fun c p a b h h1 h2 => zbR_d (show Decoder.instr p c p = .ok (.putfield (a * 256 + b), p + 3) from (zbR_b (zbR_1 h)).trans (zbR_b (zbR_2 (h1 rfl) (h2 rfl))))⟩
def zop182 : ZOp := ⟨(182, 3, fun a b => .invokevirtual (a * 256 + b)), fun c p a b h h1 h2 => zbR_d (show Decoder.instr p c p = .ok (.invokevirtual (a * 256 + b), p + 3) from (zbR_b (zbR_1 h)).trans (zbR_b (zbR_2 (h1 rfl) (h2 rfl))))⟩
def zop183 : ZOp := ⟨(183, 3, fun a b => .invokespecial (a * 256 + b)), fun c p a b h h1 h2 => zbR_d (show Decoder.instr p c p = .ok (.invokespecial (a * 256 + b), p + 3) from (zbR_b (zbR_1 h)).trans (zbR_b (zbR_2 (h1 rfl) (h2 rfl))))⟩
def zop184 : ZOp := ⟨(184, 3, fun a b => .invokestatic (a * 256 + b)), fun c p a b h h1 h2 => zbR_d (show Decoder.instr p c p = .ok (.invokestatic (a * 256 + b), p + 3) from (zbR_b (zbR_1 h)).trans (zbR_b (zbR_2 (h1 rfl) (h2 rfl))))⟩
def zop187 : ZOp := ⟨(187, 3, fun a b => .new (a * 256 + b)), fun c p a b h h1 h2 => zbR_d (show Decoder.instr p c p = .ok (.new (a * 256 + b), p + 3) from (zbR_b (zbR_1 h)).trans (zbR_b (zbR_2 (h1 rfl) (h2 rfl))))⟩
def zop189 : ZOp := ⟨(189, 3, fun a b => .anewarray (a * 256 + b)), fun c p a b h h1 h2 => zbR_d (show Decoder.instr p c p = .ok (.anewarray (a * 256 + b), p + 3) from (zbR_b (zbR_1 h)).trans (zbR_b (zbR_2 (h1 rfl) (h2 rfl))))⟩
def zop190 : ZOp := ⟨(190, 1, fun _ _ => .arraylength), fun c p _ _ h _ _ => zbR_d (show Decoder.instr p c p = .ok (.arraylength, p + 1) from (zbR_b (zbR_1 h)).trans (rfl))⟩
def zop191 : ZOp := ⟨(191, 1, fun _ _ => .athrow), fun c p _ _ h _ _ => zbR_d (show Decoder.instr p c p = .ok (.athrow, p + 1) from (zbR_b (zbR_1 h)).trans (rfl))⟩
def zop192 : ZOp := ⟨(192, 3, fun a b => .checkcast (a * 256 + b)), fun c p a b h h1 h2 => zbR_d (show Decoder.instr p c p = .ok (.checkcast (a * 256 + b), p + 3) from (zbR_b (zbR_1 h)).trans (zbR_b (zbR_2 (h1 rfl) (h2 rfl))))⟩
def zop198 : ZOp := ⟨(198, 3, fun a b => .ifnull (Reader.signed 16 (a * 256 + b))), fun c p a b h h1 h2 => zbR_d (show Decoder.instr p c p = .ok (.ifnull (Reader.signed 16 (a * 256 + b)), p + 3) from (zbR_b (zbR_1 h)).trans (zbR_b (zbR_s2 (h1 rfl) (h2 rfl))))⟩
def zop199 : ZOp := ⟨(199, 3, fun a b => .ifnonnull (Reader.signed 16 (a * 256 + b))), fun c p a b h h1 h2 => zbR_d (show Decoder.instr p c p = .ok (.ifnonnull (Reader.signed 16 (a * 256 + b)), p + 3) from (zbR_b (zbR_1 h)).trans (zbR_b (zbR_s2 (h1 rfl) (h2 rfl))))⟩
