def RX0 : String := "StepBudgets$Act"
def TX0 : u_T := fun k => match k with
  | 0 => ("StepBudgets$Act", "kind", "I", true)
  | 1 => ("StepBudgets$Act", "a", "I", true)
  | 2 => ("StepBudgets$Act", "b", "I", true)
  | 3 => ("StepBudgets$Act", "c", "I", true)
  | _ => ("StepBudgets$Act", "d", "I", true)
def tyX0 : Nat → FieldType := fun k => match k with
  | 0 => .int
  | 1 => .int
  | 2 => .int
  | 3 => .int
  | _ => .int
theorem nmX0 : ∀ a, a < 5 → ∀ b, b < 5 → a ≠ b → (TX0 a).2.1 ≠ (TX0 b).2.1 := by decide +kernel
theorem tyX0_ok : ∀ k, k < 5 → parseFieldDescriptor (TX0 k).2.2.1 = some (tyX0 k) := by decide +kernel
abbrev cX0_init : ByteArray := prog_2_method_1_code
def yX0_init : MethodName := ⟨RX0, "<init>", "(IIIII)V"⟩
abbrev cX0_isAsTold : ByteArray := prog_2_method_2_code
def yX0_isAsTold : MethodName := ⟨RX0, "isAsTold", "(IIIII)Z"⟩
abbrev cX0_fits : ByteArray := prog_2_method_3_code
def yX0_fits : MethodName := ⟨RX0, "fits", "(II)Z"⟩
abbrev cX0_kind : ByteArray := prog_2_method_7_code
def yX0_kind : MethodName := ⟨RX0, "kind", "()I"⟩
abbrev cX0_a : ByteArray := prog_2_method_8_code
def yX0_a : MethodName := ⟨RX0, "a", "()I"⟩
abbrev cX0_b : ByteArray := prog_2_method_9_code
def yX0_b : MethodName := ⟨RX0, "b", "()I"⟩
abbrev cX0_c : ByteArray := prog_2_method_10_code
def yX0_c : MethodName := ⟨RX0, "c", "()I"⟩
abbrev cX0_d : ByteArray := prog_2_method_11_code
def yX0_d : MethodName := ⟨RX0, "d", "()I"⟩
def RX1 : String := "StepBudgets$Clean"
def TX1 : u_T := fun k => match k with
  | 0 => ("StepBudgets$Clean", "from", "I", true)
  | 1 => ("StepBudgets$Clean", "to", "I", true)
  | _ => ("StepBudgets$Clean", "by", "I", true)
def tyX1 : Nat → FieldType := fun k => match k with
  | 0 => .int
  | 1 => .int
  | _ => .int
theorem nmX1 : ∀ a, a < 3 → ∀ b, b < 3 → a ≠ b → (TX1 a).2.1 ≠ (TX1 b).2.1 := by decide +kernel
theorem tyX1_ok : ∀ k, k < 3 → parseFieldDescriptor (TX1 k).2.2.1 = some (tyX1 k) := by decide +kernel
abbrev cX1_init : ByteArray := prog_3_method_1_code
def yX1_init : MethodName := ⟨RX1, "<init>", "(III)V"⟩
abbrev cX1_holds : ByteArray := prog_3_method_2_code
def yX1_holds : MethodName := ⟨RX1, "holds", "(I)Z"⟩
abbrev cX1_by : ByteArray := prog_3_method_8_code
def yX1_by : MethodName := ⟨RX1, "by", "()I"⟩
def RX2 : String := "StepBudgets$Frame"
def TX2 : u_T := fun k => match k with
  | 0 => ("StepBudgets$Frame", "numbers", "[I", true)
  | 1 => ("StepBudgets$Frame", "rows", "[I", true)
  | 2 => ("StepBudgets$Frame", "method", "I", false)
  | 3 => ("StepBudgets$Frame", "at", "I", false)
  | 4 => ("StepBudgets$Frame", "next", "I", false)
  | _ => ("StepBudgets$Frame", "cleanedBy", "I", false)
def tyX2 : Nat → FieldType := fun k => match k with
  | 0 => .array .int
  | 1 => .array .int
  | 2 => .int
  | 3 => .int
  | 4 => .int
  | _ => .int
theorem nmX2 : ∀ a, a < 6 → ∀ b, b < 6 → a ≠ b → (TX2 a).2.1 ≠ (TX2 b).2.1 := by decide +kernel
theorem tyX2_ok : ∀ k, k < 6 → parseFieldDescriptor (TX2 k).2.2.1 = some (tyX2 k) := by decide +kernel
abbrev cX2_init : ByteArray := prog_4_method_1_code
def yX2_init : MethodName := ⟨RX2, "<init>", "()V"⟩
abbrev cX2_begin : ByteArray := prog_4_method_2_code
def yX2_begin : MethodName := ⟨RX2, "begin", "(III)V"⟩
def RX3 : String := "StepBudgets$Guard"
def TX3 : u_T := fun k => match k with
  | 0 => ("StepBudgets$Guard", "from", "I", true)
  | 1 => ("StepBudgets$Guard", "to", "I", true)
  | 2 => ("StepBudgets$Guard", "kind", "I", true)
  | _ => ("StepBudgets$Guard", "at", "I", true)
def tyX3 : Nat → FieldType := fun k => match k with
  | 0 => .int
  | 1 => .int
  | 2 => .int
  | _ => .int
theorem nmX3 : ∀ a, a < 4 → ∀ b, b < 4 → a ≠ b → (TX3 a).2.1 ≠ (TX3 b).2.1 := by decide +kernel
theorem tyX3_ok : ∀ k, k < 4 → parseFieldDescriptor (TX3 k).2.2.1 = some (tyX3 k) := by decide +kernel
abbrev cX3_init : ByteArray := prog_5_method_1_code
def yX3_init : MethodName := ⟨RX3, "<init>", "(IIII)V"⟩
abbrev cX3_catches : ByteArray := prog_5_method_2_code
def yX3_catches : MethodName := ⟨RX3, "catches", "(II)Z"⟩
abbrev cX3_at : ByteArray := prog_5_method_9_code
def yX3_at : MethodName := ⟨RX3, "at", "()I"⟩
def RX4 : String := "StepBudgets$Machine"
def TX4 : u_T := fun k => match k with
  | 0 => ("StepBudgets$Machine", "report", "LStepBudgets$Report;", true)
  | 1 => ("StepBudgets$Machine", "meter", "LStepBudgets$Meter;", true)
  | 2 => ("StepBudgets$Machine", "methods", "[LStepBudgets$Method;", true)
  | 3 => ("StepBudgets$Machine", "rows", "LStepBudgets$Rows;", true)
  | 4 => ("StepBudgets$Machine", "frames", "[LStepBudgets$Frame;", true)
  | 5 => ("StepBudgets$Machine", "given", "I", false)
  | _ => ("StepBudgets$Machine", "thrown", "I", false)
def tyX4 : Nat → FieldType := fun k => match k with
  | 0 => .object "StepBudgets$Report"
  | 1 => .object "StepBudgets$Meter"
  | 2 => .array (.object "StepBudgets$Method")
  | 3 => .object "StepBudgets$Rows"
  | 4 => .array (.object "StepBudgets$Frame")
  | 5 => .int
  | _ => .int
theorem nmX4 : ∀ a, a < 7 → ∀ b, b < 7 → a ≠ b → (TX4 a).2.1 ≠ (TX4 b).2.1 := by decide +kernel
theorem tyX4_ok : ∀ k, k < 7 → parseFieldDescriptor (TX4 k).2.2.1 = some (tyX4 k) := by decide +kernel
abbrev cX4_init : ByteArray := prog_6_method_1_code
def yX4_init : MethodName := ⟨RX4, "<init>", "()V"⟩
abbrev cX4_start : ByteArray := prog_6_method_2_code
def yX4_start : MethodName := ⟨RX4, "start", "(IIII)I"⟩
abbrev cX4_callFrame : ByteArray := prog_6_method_3_code
def yX4_callFrame : MethodName := ⟨RX4, "callFrame", "(IIII)LStepBudgets$Outcome;"⟩
abbrev cX4_makeFrame : ByteArray := prog_6_method_4_code
def yX4_makeFrame : MethodName := ⟨RX4, "makeFrame", "(IIII)LStepBudgets$Outcome;"⟩
abbrev cX4_performFrame : ByteArray := prog_6_method_5_code
def yX4_performFrame : MethodName := ⟨RX4, "performFrame", "(I)LStepBudgets$Outcome;"⟩
abbrev cX4_performAct : ByteArray := prog_6_method_6_code
def yX4_performAct : MethodName := ⟨RX4, "performAct", "(LStepBudgets$Frame;I)LStepBudgets$Outcome;"⟩
abbrev cX4_goOn : ByteArray := prog_6_method_7_code
def yX4_goOn : MethodName := ⟨RX4, "goOn", "(LStepBudgets$Frame;II)LStepBudgets$Outcome;"⟩
abbrev cX4_giveOut : ByteArray := prog_6_method_8_code
def yX4_giveOut : MethodName := ⟨RX4, "giveOut", "(LStepBudgets$Frame;II)LStepBudgets$Outcome;"⟩
abbrev cX4_throwOut : ByteArray := prog_6_method_9_code
def yX4_throwOut : MethodName := ⟨RX4, "throwOut", "(LStepBudgets$Frame;II)LStepBudgets$Outcome;"⟩
abbrev cX4_answerThrow : ByteArray := prog_6_method_10_code
def yX4_answerThrow : MethodName := ⟨RX4, "answerThrow", "(LStepBudgets$Frame;II)LStepBudgets$Outcome;"⟩
abbrev cX4_leave : ByteArray := prog_6_method_11_code
def yX4_leave : MethodName := ⟨RX4, "leave", "(LStepBudgets$Frame;II)LStepBudgets$Outcome;"⟩
abbrev cX4_cleanStopped : ByteArray := prog_6_method_12_code
def yX4_cleanStopped : MethodName := ⟨RX4, "cleanStopped", "(LStepBudgets$Frame;I)LStepBudgets$Outcome;"⟩
abbrev cX4_cleanFrame : ByteArray := prog_6_method_13_code
def yX4_cleanFrame : MethodName := ⟨RX4, "cleanFrame", "(LStepBudgets$Frame;II)LStepBudgets$Outcome;"⟩
abbrev cX4_raise : ByteArray := prog_6_method_14_code
def yX4_raise : MethodName := ⟨RX4, "raise", "(I)LStepBudgets$Outcome;"⟩
abbrev cX4_doAct : ByteArray := prog_6_method_15_code
def yX4_doAct : MethodName := ⟨RX4, "doAct", "(LStepBudgets$Frame;LStepBudgets$Act;I)LStepBudgets$Outcome;"⟩
abbrev cX4_setNumber : ByteArray := prog_6_method_16_code
def yX4_setNumber : MethodName := ⟨RX4, "setNumber", "(LStepBudgets$Frame;II)LStepBudgets$Outcome;"⟩
abbrev cX4_reckon : ByteArray := prog_6_method_17_code
def yX4_reckon : MethodName := ⟨RX4, "reckon", "(LStepBudgets$Frame;LStepBudgets$Act;)LStepBudgets$Outcome;"⟩
abbrev cX4_divide : ByteArray := prog_6_method_18_code
def yX4_divide : MethodName := ⟨RX4, "divide", "(LStepBudgets$Frame;LStepBudgets$Act;)LStepBudgets$Outcome;"⟩
abbrev cX4_jump : ByteArray := prog_6_method_19_code
def yX4_jump : MethodName := ⟨RX4, "jump", "(LStepBudgets$Frame;I)LStepBudgets$Outcome;"⟩
abbrev cX4_newRow : ByteArray := prog_6_method_20_code
def yX4_newRow : MethodName := ⟨RX4, "newRow", "(LStepBudgets$Frame;LStepBudgets$Act;)LStepBudgets$Outcome;"⟩
abbrev cX4_putPlace : ByteArray := prog_6_method_21_code
def yX4_putPlace : MethodName := ⟨RX4, "putPlace", "(LStepBudgets$Frame;LStepBudgets$Act;)LStepBudgets$Outcome;"⟩
abbrev cX4_getPlace : ByteArray := prog_6_method_22_code
def yX4_getPlace : MethodName := ⟨RX4, "getPlace", "(LStepBudgets$Frame;LStepBudgets$Act;)LStepBudgets$Outcome;"⟩
abbrev cX4_tellSize : ByteArray := prog_6_method_23_code
def yX4_tellSize : MethodName := ⟨RX4, "tellSize", "(LStepBudgets$Frame;LStepBudgets$Act;)LStepBudgets$Outcome;"⟩
abbrev cX4_copyPlaces : ByteArray := prog_6_method_24_code
def yX4_copyPlaces : MethodName := ⟨RX4, "copyPlaces", "(LStepBudgets$Frame;LStepBudgets$Act;)LStepBudgets$Outcome;"⟩
abbrev cX4_callMethod : ByteArray := prog_6_method_25_code
def yX4_callMethod : MethodName := ⟨RX4, "callMethod", "(LStepBudgets$Frame;LStepBudgets$Act;I)LStepBudgets$Outcome;"⟩
def RX5 : String := "StepBudgets$Meter"
def TX5 : u_T := fun k => match k with
  | 0 => ("StepBudgets$Meter", "inBudget", "I", false)
  | 1 => ("StepBudgets$Meter", "inReserve", "I", false)
  | 2 => ("StepBudgets$Meter", "overrun", "Z", false)
  | 3 => ("StepBudgets$Meter", "budget", "I", false)
  | 4 => ("StepBudgets$Meter", "reserve", "I", false)
  | 5 => ("StepBudgets$Meter", "throwsBegun", "I", false)
  | _ => ("StepBudgets$Meter", "stopped", "Z", false)
def tyX5 : Nat → FieldType := fun k => match k with
  | 0 => .int
  | 1 => .int
  | 2 => .boolean
  | 3 => .int
  | 4 => .int
  | 5 => .int
  | _ => .boolean
theorem nmX5 : ∀ a, a < 7 → ∀ b, b < 7 → a ≠ b → (TX5 a).2.1 ≠ (TX5 b).2.1 := by decide +kernel
theorem tyX5_ok : ∀ k, k < 7 → parseFieldDescriptor (TX5 k).2.2.1 = some (tyX5 k) := by decide +kernel
abbrev cX5_init : ByteArray := prog_7_method_1_code
def yX5_init : MethodName := ⟨RX5, "<init>", "()V"⟩
abbrev cX5_begin : ByteArray := prog_7_method_2_code
def yX5_begin : MethodName := ⟨RX5, "begin", "(II)V"⟩
abbrev cX5_count : ByteArray := prog_7_method_3_code
def yX5_count : MethodName := ⟨RX5, "count", "(I)LStepBudgets$Outcome;"⟩
abbrev cX5_countThrow : ByteArray := prog_7_method_4_code
def yX5_countThrow : MethodName := ⟨RX5, "countThrow", "()LStepBudgets$Outcome;"⟩
abbrev cX5_refuse : ByteArray := prog_7_method_5_code
def yX5_refuse : MethodName := ⟨RX5, "refuse", "()LStepBudgets$Outcome;"⟩
def RX6 : String := "StepBudgets$Method"
def TX6 : u_T := fun k => match k with
  | 0 => ("StepBudgets$Method", "acts", "Ljava/util/ArrayList;", true)
  | 1 => ("StepBudgets$Method", "guards", "Ljava/util/ArrayList;", true)
  | _ => ("StepBudgets$Method", "cleans", "Ljava/util/ArrayList;", true)
def tyX6 : Nat → FieldType := fun k => match k with
  | 0 => .object "java/util/ArrayList"
  | 1 => .object "java/util/ArrayList"
  | _ => .object "java/util/ArrayList"
theorem nmX6 : ∀ a, a < 3 → ∀ b, b < 3 → a ≠ b → (TX6 a).2.1 ≠ (TX6 b).2.1 := by decide +kernel
theorem tyX6_ok : ∀ k, k < 3 → parseFieldDescriptor (TX6 k).2.2.1 = some (tyX6 k) := by decide +kernel
abbrev cX6_init : ByteArray := prog_8_method_1_code
def yX6_init : MethodName := ⟨RX6, "<init>", "()V"⟩
abbrev cX6_forget : ByteArray := prog_8_method_2_code
def yX6_forget : MethodName := ⟨RX6, "forget", "()V"⟩
abbrev cX6_guardFor : ByteArray := prog_8_method_3_code
def yX6_guardFor : MethodName := ⟨RX6, "guardFor", "(II)I"⟩
def RX7 : String := "StepBudgets$Outcome"
def TX7 : u_T := fun k => match k with
  | _ => ("", "", "", false)
def tyX7 : Nat → FieldType := fun k => match k with
  | _ => .int
theorem nmX7 : ∀ a, a < 0 → ∀ b, b < 0 → a ≠ b → (TX7 a).2.1 ≠ (TX7 b).2.1 := by decide +kernel
theorem tyX7_ok : ∀ k, k < 0 → parseFieldDescriptor (TX7 k).2.2.1 = some (tyX7 k) := by decide +kernel
def RX8 : String := "StepBudgets$Report"
def TX8 : u_T := fun k => match k with
  | 0 => ("StepBudgets$Report", "gave", "I", false)
  | 1 => ("StepBudgets$Report", "threw", "I", false)
  | 2 => ("StepBudgets$Report", "frames", "I", false)
  | 3 => ("StepBudgets$Report", "cleans", "I", false)
  | 4 => ("StepBudgets$Report", "guards", "I", false)
  | 5 => ("StepBudgets$Report", "deepest", "I", false)
  | _ => ("StepBudgets$Report", "kept", "[I", true)
def tyX8 : Nat → FieldType := fun k => match k with
  | 0 => .int
  | 1 => .int
  | 2 => .int
  | 3 => .int
  | 4 => .int
  | 5 => .int
  | _ => .array .int
theorem nmX8 : ∀ a, a < 7 → ∀ b, b < 7 → a ≠ b → (TX8 a).2.1 ≠ (TX8 b).2.1 := by decide +kernel
theorem tyX8_ok : ∀ k, k < 7 → parseFieldDescriptor (TX8 k).2.2.1 = some (tyX8 k) := by decide +kernel
abbrev cX8_init : ByteArray := prog_10_method_1_code
def yX8_init : MethodName := ⟨RX8, "<init>", "()V"⟩
abbrev cX8_begin : ByteArray := prog_10_method_2_code
def yX8_begin : MethodName := ⟨RX8, "begin", "()V"⟩
abbrev cX8_noteFrame : ByteArray := prog_10_method_3_code
def yX8_noteFrame : MethodName := ⟨RX8, "noteFrame", "(I)V"⟩
abbrev cX8_noteClean : ByteArray := prog_10_method_4_code
def yX8_noteClean : MethodName := ⟨RX8, "noteClean", "(III)V"⟩
abbrev cX8_cleanPart : ByteArray := prog_10_method_5_code
def yX8_cleanPart : MethodName := ⟨RX8, "cleanPart", "(II)I"⟩
def RX9 : String := "StepBudgets$Rows"
def TX9 : u_T := fun k => match k with
  | 0 => ("StepBudgets$Rows", "places", "[I", true)
  | 1 => ("StepBudgets$Rows", "starts", "[I", true)
  | 2 => ("StepBudgets$Rows", "sizes", "[I", true)
  | 3 => ("StepBudgets$Rows", "lanes", "[I", true)
  | 4 => ("StepBudgets$Rows", "count", "I", false)
  | _ => ("StepBudgets$Rows", "used", "I", false)
def tyX9 : Nat → FieldType := fun k => match k with
  | 0 => .array .int
  | 1 => .array .int
  | 2 => .array .int
  | 3 => .array .int
  | 4 => .int
  | _ => .int
theorem nmX9 : ∀ a, a < 6 → ∀ b, b < 6 → a ≠ b → (TX9 a).2.1 ≠ (TX9 b).2.1 := by decide +kernel
theorem tyX9_ok : ∀ k, k < 6 → parseFieldDescriptor (TX9 k).2.2.1 = some (tyX9 k) := by decide +kernel
abbrev cX9_init : ByteArray := prog_11_method_1_code
def yX9_init : MethodName := ⟨RX9, "<init>", "()V"⟩
abbrev cX9_forget : ByteArray := prog_11_method_2_code
def yX9_forget : MethodName := ⟨RX9, "forget", "()V"⟩
abbrev cX9_add : ByteArray := prog_11_method_3_code
def yX9_add : MethodName := ⟨RX9, "add", "(II)I"⟩
abbrev cX9_has : ByteArray := prog_11_method_4_code
def yX9_has : MethodName := ⟨RX9, "has", "(I)Z"⟩
abbrev cX9_size : ByteArray := prog_11_method_5_code
def yX9_size : MethodName := ⟨RX9, "size", "(I)I"⟩
abbrev cX9_placeFault : ByteArray := prog_11_method_6_code
def yX9_placeFault : MethodName := ⟨RX9, "placeFault", "(III)I"⟩
abbrev cX9_put : ByteArray := prog_11_method_7_code
def yX9_put : MethodName := ⟨RX9, "put", "(III)V"⟩
abbrev cX9_get : ByteArray := prog_11_method_8_code
def yX9_get : MethodName := ⟨RX9, "get", "(II)I"⟩
abbrev cX9_copyFault : ByteArray := prog_11_method_9_code
def yX9_copyFault : MethodName := ⟨RX9, "copyFault", "(III)I"⟩
abbrev cX9_copy : ByteArray := prog_11_method_10_code
def yX9_copy : MethodName := ⟨RX9, "copy", "(III)V"⟩
def RX10 : String := "StepBudgets"
def TX10 : u_T := fun k => match k with
  | 0 => ("StepBudgets", "machine", "LStepBudgets$Machine;", true)
  | _ => ("StepBudgets", "reserveSteps", "I", false)
def tyX10 : Nat → FieldType := fun k => match k with
  | 0 => .object "StepBudgets$Machine"
  | _ => .int
theorem nmX10 : ∀ a, a < 2 → ∀ b, b < 2 → a ≠ b → (TX10 a).2.1 ≠ (TX10 b).2.1 := by decide +kernel
theorem tyX10_ok : ∀ k, k < 2 → parseFieldDescriptor (TX10 k).2.2.1 = some (tyX10 k) := by decide +kernel
abbrev cX10_init : ByteArray := prog_1_method_1_code
def yX10_init : MethodName := ⟨RX10, "<init>", "()V"⟩
abbrev cX10_act : ByteArray := prog_1_method_2_code
def yX10_act : MethodName := ⟨RX10, "act", "(IIIIII)I"⟩
abbrev cX10_guard : ByteArray := prog_1_method_3_code
def yX10_guard : MethodName := ⟨RX10, "guard", "(IIIII)I"⟩
abbrev cX10_clean : ByteArray := prog_1_method_4_code
def yX10_clean : MethodName := ⟨RX10, "clean", "(IIII)I"⟩
abbrev cX10_clear : ByteArray := prog_1_method_5_code
def yX10_clear : MethodName := ⟨RX10, "clear", "(I)I"⟩
abbrev cX10_reserve : ByteArray := prog_1_method_6_code
def yX10_reserve : MethodName := ⟨RX10, "reserve", "(I)I"⟩
abbrev cX10_run : ByteArray := prog_1_method_7_code
def yX10_run : MethodName := ⟨RX10, "run", "(III)I"⟩
abbrev cX10_latest : ByteArray := prog_1_method_8_code
def yX10_latest : MethodName := ⟨RX10, "latest", "(I)I"⟩
abbrev cX10_cleaned : ByteArray := prog_1_method_9_code
def yX10_cleaned : MethodName := ⟨RX10, "cleaned", "(II)I"⟩
abbrev cX10_told : ByteArray := prog_1_method_10_code
def yX10_told : MethodName := ⟨RX10, "told", "(II)I"⟩
abbrev cX10_within : ByteArray := prog_1_method_11_code
def yX10_within : MethodName := ⟨RX10, "within", "(II)Z"⟩
abbrev cX10_isSpan : ByteArray := prog_1_method_12_code
def yX10_isSpan : MethodName := ⟨RX10, "isSpan", "(II)Z"⟩
def RX11 : String := "StepBudgetsModel"
def TX11 : u_T := fun k => match k with
  | 0 => ("StepBudgetsModel", "acts", "[I", true)
  | 1 => ("StepBudgetsModel", "kind", "[I", true)
  | 2 => ("StepBudgetsModel", "na", "[I", true)
  | 3 => ("StepBudgetsModel", "nb", "[I", true)
  | 4 => ("StepBudgetsModel", "nc", "[I", true)
  | 5 => ("StepBudgetsModel", "nd", "[I", true)
  | 6 => ("StepBudgetsModel", "guards", "[I", true)
  | 7 => ("StepBudgetsModel", "guardFrom", "[I", true)
  | 8 => ("StepBudgetsModel", "guardTo", "[I", true)
  | 9 => ("StepBudgetsModel", "guardKind", "[I", true)
  | 10 => ("StepBudgetsModel", "guardAt", "[I", true)
  | 11 => ("StepBudgetsModel", "cleans", "[I", true)
  | 12 => ("StepBudgetsModel", "cleanFrom", "[I", true)
  | 13 => ("StepBudgetsModel", "cleanTo", "[I", true)
  | 14 => ("StepBudgetsModel", "cleanBy", "[I", true)
  | 15 => ("StepBudgetsModel", "reserve", "I", false)
  | 16 => ("StepBudgetsModel", "depth", "I", false)
  | 17 => ("StepBudgetsModel", "method", "[I", true)
  | 18 => ("StepBudgetsModel", "pc", "[I", true)
  | 19 => ("StepBudgetsModel", "number", "[I", true)
  | 20 => ("StepBudgetsModel", "row", "[I", true)
  | 21 => ("StepBudgetsModel", "isClean", "[Z", true)
  | 22 => ("StepBudgetsModel", "leaves", "[Z", true)
  | 23 => ("StepBudgetsModel", "leaveTo", "[I", true)
  | 24 => ("StepBudgetsModel", "action", "[I", true)
  | 25 => ("StepBudgetsModel", "value", "[I", true)
  | 26 => ("StepBudgetsModel", "done", "[I", true)
  | 27 => ("StepBudgetsModel", "at", "[I", true)
  | 28 => ("StepBudgetsModel", "arrays", "I", false)
  | 29 => ("StepBudgetsModel", "places", "I", false)
  | 30 => ("StepBudgetsModel", "lane", "[I", true)
  | 31 => ("StepBudgetsModel", "size", "[I", true)
  | 32 => ("StepBudgetsModel", "first", "[I", true)
  | 33 => ("StepBudgetsModel", "place", "[J", true)
  | 34 => ("StepBudgetsModel", "budget", "I", false)
  | 35 => ("StepBudgetsModel", "result", "I", false)
  | 36 => ("StepBudgetsModel", "ended", "Z", false)
  | 37 => ("StepBudgetsModel", "stopped", "Z", false)
  | 38 => ("StepBudgetsModel", "cleaning", "I", false)
  | 39 => ("StepBudgetsModel", "begun", "I", false)
  | 40 => ("StepBudgetsModel", "latest", "[I", true)
  | 41 => ("StepBudgetsModel", "cleanedBy", "[I", true)
  | 42 => ("StepBudgetsModel", "cleanedOf", "[I", true)
  | _ => ("StepBudgetsModel", "cleanedAt", "[I", true)
def tyX11 : Nat → FieldType := fun k => match k with
  | 0 => .array .int
  | 1 => .array .int
  | 2 => .array .int
  | 3 => .array .int
  | 4 => .array .int
  | 5 => .array .int
  | 6 => .array .int
  | 7 => .array .int
  | 8 => .array .int
  | 9 => .array .int
  | 10 => .array .int
  | 11 => .array .int
  | 12 => .array .int
  | 13 => .array .int
  | 14 => .array .int
  | 15 => .int
  | 16 => .int
  | 17 => .array .int
  | 18 => .array .int
  | 19 => .array .int
  | 20 => .array .int
  | 21 => .array .boolean
  | 22 => .array .boolean
  | 23 => .array .int
  | 24 => .array .int
  | 25 => .array .int
  | 26 => .array .int
  | 27 => .array .int
  | 28 => .int
  | 29 => .int
  | 30 => .array .int
  | 31 => .array .int
  | 32 => .array .int
  | 33 => .array .long
  | 34 => .int
  | 35 => .int
  | 36 => .boolean
  | 37 => .boolean
  | 38 => .int
  | 39 => .int
  | 40 => .array .int
  | 41 => .array .int
  | 42 => .array .int
  | _ => .array .int
theorem nmX11 : ∀ a, a < 44 → ∀ b, b < 44 → a ≠ b → (TX11 a).2.1 ≠ (TX11 b).2.1 := by decide +kernel
theorem tyX11_ok : ∀ k, k < 44 → parseFieldDescriptor (TX11 k).2.2.1 = some (tyX11 k) := by decide +kernel
abbrev cX11_init : ByteArray := prog_13_method_1_code
def yX11_init : MethodName := ⟨RX11, "<init>", "()V"⟩
abbrev cX11_in : ByteArray := prog_13_method_2_code
def yX11_in : MethodName := ⟨RX11, "in", "(III)Z"⟩
abbrev cX11_isMethod : ByteArray := prog_13_method_3_code
def yX11_isMethod : MethodName := ⟨RX11, "isMethod", "(I)Z"⟩
abbrev cX11_isNumber : ByteArray := prog_13_method_4_code
def yX11_isNumber : MethodName := ⟨RX11, "isNumber", "(I)Z"⟩
abbrev cX11_isRow : ByteArray := prog_13_method_5_code
def yX11_isRow : MethodName := ⟨RX11, "isRow", "(I)Z"⟩
abbrev cX11_isLane : ByteArray := prog_13_method_6_code
def yX11_isLane : MethodName := ⟨RX11, "isLane", "(I)Z"⟩
abbrev cX11_isRight : ByteArray := prog_13_method_7_code
def yX11_isRight : MethodName := ⟨RX11, "isRight", "(IIIII)Z"⟩
abbrev cX11_act : ByteArray := prog_13_method_8_code
def yX11_act : MethodName := ⟨RX11, "act", "(IIIIII)I"⟩
abbrev cX11_isSpan : ByteArray := prog_13_method_9_code
def yX11_isSpan : MethodName := ⟨RX11, "isSpan", "(III)Z"⟩
abbrev cX11_guard : ByteArray := prog_13_method_10_code
def yX11_guard : MethodName := ⟨RX11, "guard", "(IIIII)I"⟩
abbrev cX11_clean : ByteArray := prog_13_method_11_code
def yX11_clean : MethodName := ⟨RX11, "clean", "(IIII)I"⟩
abbrev cX11_clear : ByteArray := prog_13_method_12_code
def yX11_clear : MethodName := ⟨RX11, "clear", "(I)I"⟩
abbrev cX11_reserve : ByteArray := prog_13_method_13_code
def yX11_reserve : MethodName := ⟨RX11, "reserve", "(I)I"⟩
abbrev cX11_counts : ByteArray := prog_13_method_14_code
def yX11_counts : MethodName := ⟨RX11, "counts", "()Z"⟩
abbrev cX11_take : ByteArray := prog_13_method_15_code
def yX11_take : MethodName := ⟨RX11, "take", "(I)Z"⟩
abbrev cX11_over : ByteArray := prog_13_method_16_code
def yX11_over : MethodName := ⟨RX11, "over", "()V"⟩
abbrev cX11_begins : ByteArray := prog_13_method_17_code
def yX11_begins : MethodName := ⟨RX11, "begins", "(II)V"⟩
abbrev cX11_makes : ByteArray := prog_13_method_18_code
def yX11_makes : MethodName := ⟨RX11, "makes", "(IIIIZ)Z"⟩
abbrev cX11_holds : ByteArray := prog_13_method_19_code
def yX11_holds : MethodName := ⟨RX11, "holds", "(III)Z"⟩
abbrev cX11_leave : ByteArray := prog_13_method_20_code
def yX11_leave : MethodName := ⟨RX11, "leave", "(IIII)V"⟩
abbrev cX11_leaveOn : ByteArray := prog_13_method_21_code
def yX11_leaveOn : MethodName := ⟨RX11, "leaveOn", "(I)V"⟩
abbrev cX11_runsClean : ByteArray := prog_13_method_22_code
def yX11_runsClean : MethodName := ⟨RX11, "runsClean", "(I)Z"⟩
abbrev cX11_gave : ByteArray := prog_13_method_23_code
def yX11_gave : MethodName := ⟨RX11, "gave", "(II)V"⟩
abbrev cX11_thrown : ByteArray := prog_13_method_24_code
def yX11_thrown : MethodName := ⟨RX11, "thrown", "(II)V"⟩
abbrev cX11_throwOn : ByteArray := prog_13_method_25_code
def yX11_throwOn : MethodName := ⟨RX11, "throwOn", "(II)V"⟩
abbrev cX11_raise : ByteArray := prog_13_method_26_code
def yX11_raise : MethodName := ⟨RX11, "raise", "(II)V"⟩
abbrev cX11_cleanOn : ByteArray := prog_13_method_27_code
def yX11_cleanOn : MethodName := ⟨RX11, "cleanOn", "()V"⟩
abbrev cX11_get : ByteArray := prog_13_method_28_code
def yX11_get : MethodName := ⟨RX11, "get", "(II)I"⟩
abbrev cX11_put : ByteArray := prog_13_method_29_code
def yX11_put : MethodName := ⟨RX11, "put", "(III)V"⟩
abbrev cX11_cast : ByteArray := prog_13_method_30_code
def yX11_cast : MethodName := ⟨RX11, "cast", "(II)J"⟩
abbrev cX11_step : ByteArray := prog_13_method_31_code
def yX11_step : MethodName := ⟨RX11, "step", "()V"⟩
abbrev cX11_goes : ByteArray := prog_13_method_32_code
def yX11_goes : MethodName := ⟨RX11, "goes", "(II)V"⟩
abbrev cX11_news : ByteArray := prog_13_method_33_code
def yX11_news : MethodName := ⟨RX11, "news", "(II)V"⟩
abbrev cX11_reckons : ByteArray := prog_13_method_34_code
def yX11_reckons : MethodName := ⟨RX11, "reckons", "(II)I"⟩
abbrev cX11_rows : ByteArray := prog_13_method_35_code
def yX11_rows : MethodName := ⟨RX11, "rows", "(II)I"⟩
abbrev cX11_look : ByteArray := prog_13_method_36_code
def yX11_look : MethodName := ⟨RX11, "look", "(III)I"⟩
abbrev cX11_copies : ByteArray := prog_13_method_37_code
def yX11_copies : MethodName := ⟨RX11, "copies", "(III)I"⟩
abbrev cX11_run : ByteArray := prog_13_method_38_code
def yX11_run : MethodName := ⟨RX11, "run", "(III)I"⟩
abbrev cX11_latest : ByteArray := prog_13_method_39_code
def yX11_latest : MethodName := ⟨RX11, "latest", "(I)I"⟩
abbrev cX11_cleaned : ByteArray := prog_13_method_40_code
def yX11_cleaned : MethodName := ⟨RX11, "cleaned", "(II)I"⟩
abbrev cX11_told : ByteArray := prog_13_method_41_code
def yX11_told : MethodName := ⟨RX11, "told", "(II)I"⟩
def RJx145de : String := "java/io/Serializable"
def TJx145de : u_T := fun k => match k with
  | _ => ("", "", "", false)
def tyJx145de : Nat → FieldType := fun k => match k with
  | _ => .int
theorem nmJx145de : ∀ a, a < 0 → ∀ b, b < 0 → a ≠ b → (TJx145de a).2.1 ≠ (TJx145de b).2.1 := by decide +kernel
theorem tyJx145de_ok : ∀ k, k < 0 → parseFieldDescriptor (TJx145de k).2.2.1 = some (tyJx145de k) := by decide +kernel
def RJx8e188 : String := "java/lang/Cloneable"
def TJx8e188 : u_T := fun k => match k with
  | _ => ("", "", "", false)
def tyJx8e188 : Nat → FieldType := fun k => match k with
  | _ => .int
theorem nmJx8e188 : ∀ a, a < 0 → ∀ b, b < 0 → a ≠ b → (TJx8e188 a).2.1 ≠ (TJx8e188 b).2.1 := by decide +kernel
theorem tyJx8e188_ok : ∀ k, k < 0 → parseFieldDescriptor (TJx8e188 k).2.2.1 = some (tyJx8e188 k) := by decide +kernel
def RJx29ce0 : String := "java/lang/Enum"
def TJx29ce0 : u_T := fun k => match k with
  | _ => ("", "", "", false)
def tyJx29ce0 : Nat → FieldType := fun k => match k with
  | _ => .int
theorem nmJx29ce0 : ∀ a, a < 0 → ∀ b, b < 0 → a ≠ b → (TJx29ce0 a).2.1 ≠ (TJx29ce0 b).2.1 := by decide +kernel
theorem tyJx29ce0_ok : ∀ k, k < 0 → parseFieldDescriptor (TJx29ce0 k).2.2.1 = some (tyJx29ce0 k) := by decide +kernel
def RJxab1ab : String := "java/lang/Iterable"
def TJxab1ab : u_T := fun k => match k with
  | _ => ("", "", "", false)
def tyJxab1ab : Nat → FieldType := fun k => match k with
  | _ => .int
theorem nmJxab1ab : ∀ a, a < 0 → ∀ b, b < 0 → a ≠ b → (TJxab1ab a).2.1 ≠ (TJxab1ab b).2.1 := by decide +kernel
theorem tyJxab1ab_ok : ∀ k, k < 0 → parseFieldDescriptor (TJxab1ab k).2.2.1 = some (tyJxab1ab k) := by decide +kernel
def RJ9 : String := "java/lang/Math"
def TJ9 : u_T := fun k => match k with
  | _ => ("", "", "", false)
def tyJ9 : Nat → FieldType := fun k => match k with
  | _ => .int
theorem nmJ9 : ∀ a, a < 0 → ∀ b, b < 0 → a ≠ b → (TJ9 a).2.1 ≠ (TJ9 b).2.1 := by decide +kernel
theorem tyJ9_ok : ∀ k, k < 0 → parseFieldDescriptor (TJ9 k).2.2.1 = some (tyJ9 k) := by decide +kernel
abbrev cJ9_max_7cf53 : ByteArray := prog_18_method_65_code
def yJ9_max_7cf53 : MethodName := ⟨RJ9, "max", "(II)I"⟩
abbrev cJ9_min_7cf53 : ByteArray := prog_18_method_69_code
def yJ9_min_7cf53 : MethodName := ⟨RJ9, "min", "(II)I"⟩
def RJxe7f93 : String := "java/lang/Record"
def TJxe7f93 : u_T := fun k => match k with
  | _ => ("", "", "", false)
def tyJxe7f93 : Nat → FieldType := fun k => match k with
  | _ => .int
theorem nmJxe7f93 : ∀ a, a < 0 → ∀ b, b < 0 → a ≠ b → (TJxe7f93 a).2.1 ≠ (TJxe7f93 b).2.1 := by decide +kernel
theorem tyJxe7f93_ok : ∀ k, k < 0 → parseFieldDescriptor (TJxe7f93 k).2.2.1 = some (tyJxe7f93 k) := by decide +kernel
abbrev cJxe7f93_init_da8c8 : ByteArray := prog_19_method_1_code
def yJxe7f93_init_da8c8 : MethodName := ⟨RJxe7f93, "<init>", "()V"⟩
def RJ10 : String := "java/lang/System"
def TJ10 : u_T := fun k => match k with
  | _ => ("", "", "", false)
def tyJ10 : Nat → FieldType := fun k => match k with
  | _ => .int
theorem nmJ10 : ∀ a, a < 0 → ∀ b, b < 0 → a ≠ b → (TJ10 a).2.1 ≠ (TJ10 b).2.1 := by decide +kernel
theorem tyJ10_ok : ∀ k, k < 0 → parseFieldDescriptor (TJ10 k).2.2.1 = some (tyJ10 k) := by decide +kernel
def RJxa1e45 : String := "java/util/AbstractCollection"
def TJxa1e45 : u_T := fun k => match k with
  | _ => ("", "", "", false)
def tyJxa1e45 : Nat → FieldType := fun k => match k with
  | _ => .int
theorem nmJxa1e45 : ∀ a, a < 0 → ∀ b, b < 0 → a ≠ b → (TJxa1e45 a).2.1 ≠ (TJxa1e45 b).2.1 := by decide +kernel
theorem tyJxa1e45_ok : ∀ k, k < 0 → parseFieldDescriptor (TJxa1e45 k).2.2.1 = some (tyJxa1e45 k) := by decide +kernel
abbrev cJxa1e45_init_da8c8 : ByteArray := prog_21_method_1_code
def yJxa1e45_init_da8c8 : MethodName := ⟨RJxa1e45, "<init>", "()V"⟩
def RJxc12de : String := "java/util/AbstractList"
def TJxc12de : u_T := fun k => match k with
  | _ => ("", "", "", false)
def tyJxc12de : Nat → FieldType := fun k => match k with
  | _ => .int
theorem nmJxc12de : ∀ a, a < 0 → ∀ b, b < 0 → a ≠ b → (TJxc12de a).2.1 ≠ (TJxc12de b).2.1 := by decide +kernel
theorem tyJxc12de_ok : ∀ k, k < 0 → parseFieldDescriptor (TJxc12de k).2.2.1 = some (tyJxc12de k) := by decide +kernel
abbrev cJxc12de_init_da8c8 : ByteArray := prog_22_method_1_code
def yJxc12de_init_da8c8 : MethodName := ⟨RJxc12de, "<init>", "()V"⟩
def RJx4a65c : String := "java/util/ArrayList"
def TJx4a65c : u_T := fun k => match k with
  | 0 => ("java/util/AbstractList", "modCount", "I", false)
  | 1 => ("java/util/ArrayList", "elementData", "[Ljava/lang/Object;", false)
  | _ => ("java/util/ArrayList", "size", "I", false)
def tyJx4a65c : Nat → FieldType := fun k => match k with
  | 0 => .int
  | 1 => .array (.object "java/lang/Object")
  | _ => .int
theorem nmJx4a65c : ∀ a, a < 3 → ∀ b, b < 3 → a ≠ b → (TJx4a65c a).2.1 ≠ (TJx4a65c b).2.1 := by decide +kernel
theorem tyJx4a65c_ok : ∀ k, k < 3 → parseFieldDescriptor (TJx4a65c k).2.2.1 = some (tyJx4a65c k) := by decide +kernel
abbrev cJx4a65c_init_da8c8 : ByteArray := prog_23_method_2_code
def yJx4a65c_init_da8c8 : MethodName := ⟨RJx4a65c, "<init>", "()V"⟩
abbrev cJx4a65c_grow_92f84 : ByteArray := prog_23_method_6_code
def yJx4a65c_grow_92f84 : MethodName := ⟨RJx4a65c, "grow", "(I)[Ljava/lang/Object;"⟩
abbrev cJx4a65c_grow_d5877 : ByteArray := prog_23_method_7_code
def yJx4a65c_grow_d5877 : MethodName := ⟨RJx4a65c, "grow", "()[Ljava/lang/Object;"⟩
abbrev cJx4a65c_size_8abf5 : ByteArray := prog_23_method_8_code
def yJx4a65c_size_8abf5 : MethodName := ⟨RJx4a65c, "size", "()I"⟩
abbrev cJx4a65c_elementData_915e3 : ByteArray := prog_23_method_18_code
def yJx4a65c_elementData_915e3 : MethodName := ⟨RJx4a65c, "elementData", "(I)Ljava/lang/Object;"⟩
abbrev cJx4a65c_get_915e3 : ByteArray := prog_23_method_20_code
def yJx4a65c_get_915e3 : MethodName := ⟨RJx4a65c, "get", "(I)Ljava/lang/Object;"⟩
abbrev cJx4a65c_add_72be8 : ByteArray := prog_23_method_24_code
def yJx4a65c_add_72be8 : MethodName := ⟨RJx4a65c, "add", "(Ljava/lang/Object;[Ljava/lang/Object;I)V"⟩
abbrev cJx4a65c_add_9ea2d : ByteArray := prog_23_method_25_code
def yJx4a65c_add_9ea2d : MethodName := ⟨RJx4a65c, "add", "(Ljava/lang/Object;)Z"⟩
abbrev cJx4a65c_clear_da8c8 : ByteArray := prog_23_method_40_code
def yJx4a65c_clear_da8c8 : MethodName := ⟨RJx4a65c, "clear", "()V"⟩
def RJ7 : String := "java/util/Arrays"
def TJ7 : u_T := fun k => match k with
  | _ => ("", "", "", false)
def tyJ7 : Nat → FieldType := fun k => match k with
  | _ => .int
theorem nmJ7 : ∀ a, a < 0 → ∀ b, b < 0 → a ≠ b → (TJ7 a).2.1 ≠ (TJ7 b).2.1 := by decide +kernel
theorem tyJ7_ok : ∀ k, k < 0 → parseFieldDescriptor (TJ7 k).2.2.1 = some (tyJ7 k) := by decide +kernel
abbrev cJ7_rangeCheck_23922 : ByteArray := prog_24_method_30_code
def yJ7_rangeCheck_23922 : MethodName := ⟨RJ7, "rangeCheck", "(III)V"⟩
abbrev cJ7_fill_53178 : ByteArray := prog_24_method_103_code
def yJ7_fill_53178 : MethodName := ⟨RJ7, "fill", "([II)V"⟩
abbrev cJ7_fill_fda19 : ByteArray := prog_24_method_104_code
def yJ7_fill_fda19 : MethodName := ⟨RJ7, "fill", "([IIII)V"⟩
abbrev cJ7_copyOf_1904c : ByteArray := prog_24_method_119_code
def yJ7_copyOf_1904c : MethodName := ⟨RJ7, "copyOf", "([Ljava/lang/Object;I)[Ljava/lang/Object;"⟩
abbrev cJ7_copyOf_6403c : ByteArray := prog_24_method_120_code
def yJ7_copyOf_6403c : MethodName := ⟨RJ7, "copyOf", "([Ljava/lang/Object;ILjava/lang/Class;)[Ljava/lang/Object;"⟩
def RJx5ef63 : String := "java/util/Collection"
def TJx5ef63 : u_T := fun k => match k with
  | _ => ("", "", "", false)
def tyJx5ef63 : Nat → FieldType := fun k => match k with
  | _ => .int
theorem nmJx5ef63 : ∀ a, a < 0 → ∀ b, b < 0 → a ≠ b → (TJx5ef63 a).2.1 ≠ (TJx5ef63 b).2.1 := by decide +kernel
theorem tyJx5ef63_ok : ∀ k, k < 0 → parseFieldDescriptor (TJx5ef63 k).2.2.1 = some (tyJx5ef63 k) := by decide +kernel
def RJxbd725 : String := "java/util/List"
def TJxbd725 : u_T := fun k => match k with
  | _ => ("", "", "", false)
def tyJxbd725 : Nat → FieldType := fun k => match k with
  | _ => .int
theorem nmJxbd725 : ∀ a, a < 0 → ∀ b, b < 0 → a ≠ b → (TJxbd725 a).2.1 ≠ (TJxbd725 b).2.1 := by decide +kernel
theorem tyJxbd725_ok : ∀ k, k < 0 → parseFieldDescriptor (TJxbd725 k).2.2.1 = some (tyJxbd725 k) := by decide +kernel
def RJ15 : String := "java/util/Objects"
def TJ15 : u_T := fun k => match k with
  | _ => ("", "", "", false)
def tyJ15 : Nat → FieldType := fun k => match k with
  | _ => .int
theorem nmJ15 : ∀ a, a < 0 → ∀ b, b < 0 → a ≠ b → (TJ15 a).2.1 ≠ (TJ15 b).2.1 := by decide +kernel
theorem tyJ15_ok : ∀ k, k < 0 → parseFieldDescriptor (TJ15 k).2.2.1 = some (tyJ15 k) := by decide +kernel
abbrev cJ15_checkIndex_7cf53 : ByteArray := prog_27_method_17_code
def yJ15_checkIndex_7cf53 : MethodName := ⟨RJ15, "checkIndex", "(II)I"⟩
def RJxf0a74 : String := "java/util/RandomAccess"
def TJxf0a74 : u_T := fun k => match k with
  | _ => ("", "", "", false)
def tyJxf0a74 : Nat → FieldType := fun k => match k with
  | _ => .int
theorem nmJxf0a74 : ∀ a, a < 0 → ∀ b, b < 0 → a ≠ b → (TJxf0a74 a).2.1 ≠ (TJxf0a74 b).2.1 := by decide +kernel
theorem tyJxf0a74_ok : ∀ k, k < 0 → parseFieldDescriptor (TJxf0a74 k).2.2.1 = some (tyJxf0a74 k) := by decide +kernel
def RJxa66e6 : String := "java/util/SequencedCollection"
def TJxa66e6 : u_T := fun k => match k with
  | _ => ("", "", "", false)
def tyJxa66e6 : Nat → FieldType := fun k => match k with
  | _ => .int
theorem nmJxa66e6 : ∀ a, a < 0 → ∀ b, b < 0 → a ≠ b → (TJxa66e6 a).2.1 ≠ (TJxa66e6 b).2.1 := by decide +kernel
theorem tyJxa66e6_ok : ∀ k, k < 0 → parseFieldDescriptor (TJxa66e6 k).2.2.1 = some (tyJxa66e6 k) := by decide +kernel
def RJ8 : String := "jdk/internal/util/ArraysSupport"
def TJ8 : u_T := fun k => match k with
  | _ => ("", "", "", false)
def tyJ8 : Nat → FieldType := fun k => match k with
  | _ => .int
theorem nmJ8 : ∀ a, a < 0 → ∀ b, b < 0 → a ≠ b → (TJ8 a).2.1 ≠ (TJ8 b).2.1 := by decide +kernel
theorem tyJ8_ok : ∀ k, k < 0 → parseFieldDescriptor (TJ8 k).2.2.1 = some (tyJ8 k) := by decide +kernel
abbrev cJ8_newLength_cabcc : ByteArray := prog_30_method_27_code
def yJ8_newLength_cabcc : MethodName := ⟨RJ8, "newLength", "(III)I"⟩
abbrev cJ8_hugeLength_7cf53 : ByteArray := prog_30_method_28_code
def yJ8_hugeLength_7cf53 : MethodName := ⟨RJ8, "hugeLength", "(II)I"⟩
def RJ3 : String := "jdk/internal/util/Preconditions"
def TJ3 : u_T := fun k => match k with
  | _ => ("", "", "", false)
def tyJ3 : Nat → FieldType := fun k => match k with
  | _ => .int
theorem nmJ3 : ∀ a, a < 0 → ∀ b, b < 0 → a ≠ b → (TJ3 a).2.1 ≠ (TJ3 b).2.1 := by decide +kernel
theorem tyJ3_ok : ∀ k, k < 0 → parseFieldDescriptor (TJ3 k).2.2.1 = some (tyJ3 k) := by decide +kernel
abbrev cJ3_checkIndex_8e157 : ByteArray := prog_31_method_11_code
def yJ3_checkIndex_8e157 : MethodName := ⟨RJ3, "checkIndex", "(IILjava/util/function/BiFunction;)I"⟩
def RL : String := "StepBudgetsLaw"
abbrev cL_law : ByteArray := code
def yL_law : MethodName := ⟨RL, "law", "([I)Z"⟩
abbrev vwCl : List vw_C := [(RJx4a65c, TJx4a65c, 3), (RX0, TX0, 5), (RX1, TX1, 3), (RX2, TX2, 6), (RX3, TX3, 4), (RX4, TX4, 7), (RX5, TX5, 7), (RX6, TX6, 3), (RX8, TX8, 7), (RX9, TX9, 6), (RX10, TX10, 2), (RX11, TX11, 44)]
