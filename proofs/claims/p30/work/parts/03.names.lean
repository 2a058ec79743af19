/-! ===== BEGIN printed: names, fields, word lists, decode rows ===== -/
def RX0 : String := "ThawPoints$History"
def TX0 : u_T := fun k => match k with
  | 0 => ("ThawPoints$History", "size", "I", false)
  | 1 => ("ThawPoints$History", "oldest", "I", false)
  | _ => ("ThawPoints$History", "ring", "[LThawPoints$State;", true)
def tyX0 : Nat → FieldType := fun k => match k with
  | 0 => .int
  | 1 => .int
  | _ => .array (.object "ThawPoints$State")
abbrev wsX00 : List Cond := u_ws RX0 TX0 3
theorem nmX0 : ∀ a, a < 3 → ∀ b, b < 3 → a ≠ b → (TX0 a).2.1 ≠ (TX0 b).2.1 := by decide +kernel
theorem tyX0_ok : ∀ k, k < 3 → parseFieldDescriptor (TX0 k).2.2.1 = some (tyX0 k) := by decide +kernel
abbrev cX0_init : ByteArray := prog_2_method_1_code
def yX0_init : MethodName := ⟨RX0, "<init>", "()V"⟩
abbrev cX0_push : ByteArray := prog_2_method_2_code
def yX0_push : MethodName := ⟨RX0, "push", "(LThawPoints$State;)V"⟩
abbrev cX0_popInto : ByteArray := prog_2_method_3_code
def yX0_popInto : MethodName := ⟨RX0, "popInto", "(LThawPoints$State;)V"⟩
def RX1 : String := "ThawPoints$Points"
def TX1 : u_T := fun k => match k with
  | 0 => ("ThawPoints$Points", "size", "I", false)
  | 1 => ("ThawPoints$Points", "reading", "[I", true)
  | 2 => ("ThawPoints$Points", "degree", "[I", true)
  | 3 => ("ThawPoints$Points", "year", "[I", true)
  | 4 => ("ThawPoints$Points", "left", "[I", true)
  | 5 => ("ThawPoints$Points", "right", "[I", true)
  | 6 => ("ThawPoints$Points", "depth", "[I", true)
  | _ => ("ThawPoints$Points", "order", "[I", true)
def tyX1 : Nat → FieldType := fun k => match k with
  | 0 => .int
  | 1 => .array .int
  | 2 => .array .int
  | 3 => .array .int
  | 4 => .array .int
  | 5 => .array .int
  | 6 => .array .int
  | _ => .array .int
abbrev wsX10 : List Cond := u_ws RX1 TX1 8
theorem nmX1 : ∀ a, a < 8 → ∀ b, b < 8 → a ≠ b → (TX1 a).2.1 ≠ (TX1 b).2.1 := by decide +kernel
theorem tyX1_ok : ∀ k, k < 8 → parseFieldDescriptor (TX1 k).2.2.1 = some (tyX1 k) := by decide +kernel
abbrev cX1_init : ByteArray := prog_3_method_1_code
def yX1_init : MethodName := ⟨RX1, "<init>", "()V"⟩
abbrev cX1_copyFrom : ByteArray := prog_3_method_2_code
def yX1_copyFrom : MethodName := ⟨RX1, "copyFrom", "(LThawPoints$Points;)V"⟩
abbrev cX1_indexOf : ByteArray := prog_3_method_3_code
def yX1_indexOf : MethodName := ⟨RX1, "indexOf", "(I)I"⟩
abbrev cX1_crosses : ByteArray := prog_3_method_4_code
def yX1_crosses : MethodName := ⟨RX1, "crosses", "(II)Z"⟩
abbrev cX1_addLast : ByteArray := prog_3_method_5_code
def yX1_addLast : MethodName := ⟨RX1, "addLast", "(III)V"⟩
abbrev cX1_dropDegree : ByteArray := prog_3_method_6_code
def yX1_dropDegree : MethodName := ⟨RX1, "dropDegree", "(I)Z"⟩
abbrev cX1_hang : ByteArray := prog_3_method_7_code
def yX1_hang : MethodName := ⟨RX1, "hang", "(I)V"⟩
abbrev cX1_putInOrder : ByteArray := prog_3_method_8_code
def yX1_putInOrder : MethodName := ⟨RX1, "putInOrder", "(I)V"⟩
abbrev cX1_treeDepth : ByteArray := prog_3_method_9_code
def yX1_treeDepth : MethodName := ⟨RX1, "treeDepth", "()I"⟩
abbrev cX1_widestGap : ByteArray := prog_3_method_10_code
def yX1_widestGap : MethodName := ⟨RX1, "widestGap", "()I"⟩
abbrev cX1_correctByTree : ByteArray := prog_3_method_11_code
def yX1_correctByTree : MethodName := ⟨RX1, "correctByTree", "(I)I"⟩
abbrev cX1_lastUpTo : ByteArray := prog_3_method_12_code
def yX1_lastUpTo : MethodName := ⟨RX1, "lastUpTo", "(I)I"⟩
abbrev cX1_firstAbove : ByteArray := prog_3_method_13_code
def yX1_firstAbove : MethodName := ⟨RX1, "firstAbove", "(I)I"⟩
abbrev cX1_correctByOrder : ByteArray := prog_3_method_14_code
def yX1_correctByOrder : MethodName := ⟨RX1, "correctByOrder", "(I)I"⟩
abbrev cX1_onLine : ByteArray := prog_3_method_15_code
def yX1_onLine : MethodName := ⟨RX1, "onLine", "(III)I"⟩
def RX2 : String := "ThawPoints$State"
def TX2 : u_T := fun k => match k with
  | 0 => ("ThawPoints$State", "year", "I", false)
  | 1 => ("ThawPoints$State", "seals", "I", false)
  | 2 => ("ThawPoints$State", "size", "I", false)
  | 3 => ("ThawPoints$State", "stopPart", "I", false)
  | 4 => ("ThawPoints$State", "stopReason", "I", false)
  | 5 => ("ThawPoints$State", "baths", "[I", true)
  | 6 => ("ThawPoints$State", "settings", "[I", true)
  | _ => ("ThawPoints$State", "rows", "[LThawPoints$Thermometer;", true)
def tyX2 : Nat → FieldType := fun k => match k with
  | 0 => .int
  | 1 => .int
  | 2 => .int
  | 3 => .int
  | 4 => .int
  | 5 => .array .int
  | 6 => .array .int
  | _ => .array (.object "ThawPoints$Thermometer")
abbrev wsX20 : List Cond := u_ws RX2 TX2 8
theorem nmX2 : ∀ a, a < 8 → ∀ b, b < 8 → a ≠ b → (TX2 a).2.1 ≠ (TX2 b).2.1 := by decide +kernel
theorem tyX2_ok : ∀ k, k < 8 → parseFieldDescriptor (TX2 k).2.2.1 = some (tyX2 k) := by decide +kernel
abbrev cX2_init : ByteArray := prog_4_method_1_code
def yX2_init : MethodName := ⟨RX2, "<init>", "()V"⟩
abbrev cX2_copyFrom : ByteArray := prog_4_method_2_code
def yX2_copyFrom : MethodName := ⟨RX2, "copyFrom", "(LThawPoints$State;)V"⟩
abbrev cX2_has : ByteArray := prog_4_method_3_code
def yX2_has : MethodName := ⟨RX2, "has", "(I)Z"⟩
abbrev cX2_hasRoom : ByteArray := prog_4_method_4_code
def yX2_hasRoom : MethodName := ⟨RX2, "hasRoom", "()Z"⟩
abbrev cX2_addThermometer : ByteArray := prog_4_method_5_code
def yX2_addThermometer : MethodName := ⟨RX2, "addThermometer", "(III)V"⟩
abbrev cX2_removeThermometer : ByteArray := prog_4_method_6_code
def yX2_removeThermometer : MethodName := ⟨RX2, "removeThermometer", "(I)V"⟩
abbrev cX2_letPass : ByteArray := prog_4_method_8_code
def yX2_letPass : MethodName := ⟨RX2, "letPass", "(I)V"⟩
abbrev cX2_creepOf : ByteArray := prog_4_method_9_code
def yX2_creepOf : MethodName := ⟨RX2, "creepOf", "(LThawPoints$Thermometer;)I"⟩
abbrev cX2_isValid : ByteArray := prog_4_method_10_code
def yX2_isValid : MethodName := ⟨RX2, "isValid", "(LThawPoints$Thermometer;)Z"⟩
abbrev cX2_reasonForNoPaper : ByteArray := prog_4_method_11_code
def yX2_reasonForNoPaper : MethodName := ⟨RX2, "reasonForNoPaper", "(LThawPoints$Thermometer;)I"⟩
abbrev cX2_isOld : ByteArray := prog_4_method_12_code
def yX2_isOld : MethodName := ⟨RX2, "isOld", "(I)Z"⟩
abbrev cX2_giveSeal : ByteArray := prog_4_method_13_code
def yX2_giveSeal : MethodName := ⟨RX2, "giveSeal", "(LThawPoints$Thermometer;)V"⟩
abbrev cX2_yearsUntilVoid : ByteArray := prog_4_method_14_code
def yX2_yearsUntilVoid : MethodName := ⟨RX2, "yearsUntilVoid", "(LThawPoints$Thermometer;)I"⟩
abbrev cX2_allPoints : ByteArray := prog_4_method_15_code
def yX2_allPoints : MethodName := ⟨RX2, "allPoints", "()I"⟩
abbrev cX2_validPapers : ByteArray := prog_4_method_16_code
def yX2_validPapers : MethodName := ⟨RX2, "validPapers", "()I"⟩
abbrev cX2_allCrept : ByteArray := prog_4_method_17_code
def yX2_allCrept : MethodName := ⟨RX2, "allCrept", "()I"⟩
def RX3 : String := "ThawPoints$Thermometer"
def TX3 : u_T := fun k => match k with
  | 0 => ("ThawPoints$Thermometer", "zero", "I", false)
  | 1 => ("ThawPoints$Thermometer", "gain", "I", false)
  | 2 => ("ThawPoints$Thermometer", "batch", "I", false)
  | 3 => ("ThawPoints$Thermometer", "age", "I", false)
  | 4 => ("ThawPoints$Thermometer", "crept", "I", false)
  | 5 => ("ThawPoints$Thermometer", "seal", "I", false)
  | 6 => ("ThawPoints$Thermometer", "creptAtSeal", "I", false)
  | _ => ("ThawPoints$Thermometer", "points", "LThawPoints$Points;", true)
def tyX3 : Nat → FieldType := fun k => match k with
  | 0 => .int
  | 1 => .int
  | 2 => .int
  | 3 => .int
  | 4 => .int
  | 5 => .int
  | 6 => .int
  | _ => .object "ThawPoints$Points"
abbrev wsX30 : List Cond := u_ws RX3 TX3 8
theorem nmX3 : ∀ a, a < 8 → ∀ b, b < 8 → a ≠ b → (TX3 a).2.1 ≠ (TX3 b).2.1 := by decide +kernel
theorem tyX3_ok : ∀ k, k < 8 → parseFieldDescriptor (TX3 k).2.2.1 = some (tyX3 k) := by decide +kernel
abbrev cX3_init : ByteArray := prog_5_method_1_code
def yX3_init : MethodName := ⟨RX3, "<init>", "()V"⟩
abbrev cX3_beginAnew : ByteArray := prog_5_method_2_code
def yX3_beginAnew : MethodName := ⟨RX3, "beginAnew", "(III)V"⟩
abbrev cX3_copyFrom : ByteArray := prog_5_method_3_code
def yX3_copyFrom : MethodName := ⟨RX3, "copyFrom", "(LThawPoints$Thermometer;)V"⟩
abbrev cX3_readingAt : ByteArray := prog_5_method_4_code
def yX3_readingAt : MethodName := ⟨RX3, "readingAt", "(I)I"⟩
abbrev cX3_growOlder : ByteArray := prog_5_method_5_code
def yX3_growOlder : MethodName := ⟨RX3, "growOlder", "(I)V"⟩
abbrev cX3_creepOfYear : ByteArray := prog_5_method_6_code
def yX3_creepOfYear : MethodName := ⟨RX3, "creepOfYear", "(II)I"⟩
abbrev cX3_reasonNotToMeasure : ByteArray := prog_5_method_7_code
def yX3_reasonNotToMeasure : MethodName := ⟨RX3, "reasonNotToMeasure", "(I)I"⟩
abbrev cX3_addPoint : ByteArray := prog_5_method_8_code
def yX3_addPoint : MethodName := ⟨RX3, "addPoint", "(II)V"⟩
abbrev cX3_overlapWith : ByteArray := prog_5_method_9_code
def yX3_overlapWith : MethodName := ⟨RX3, "overlapWith", "(LThawPoints$Thermometer;I)I"⟩
def RX4 : String := "ThawPoints$Works"
def TX4 : u_T := fun k => match k with
  | 0 => ("ThawPoints$Works", "length", "I", false)
  | 1 => ("ThawPoints$Works", "signs", "[C", true)
  | 2 => ("ThawPoints$Works", "at", "I", false)
  | 3 => ("ThawPoints$Works", "kind", "I", false)
  | 4 => ("ThawPoints$Works", "numbers", "[I", true)
  | _ => ("ThawPoints$Works", "numbersRead", "I", false)
def tyX4 : Nat → FieldType := fun k => match k with
  | 0 => .int
  | 1 => .array .char
  | 2 => .int
  | 3 => .int
  | 4 => .array .int
  | _ => .int
abbrev wsX40 : List Cond := u_ws RX4 TX4 6
theorem nmX4 : ∀ a, a < 6 → ∀ b, b < 6 → a ≠ b → (TX4 a).2.1 ≠ (TX4 b).2.1 := by decide +kernel
theorem tyX4_ok : ∀ k, k < 6 → parseFieldDescriptor (TX4 k).2.2.1 = some (tyX4 k) := by decide +kernel
abbrev cX4_init : ByteArray := prog_6_method_1_code
def yX4_init : MethodName := ⟨RX4, "<init>", "()V"⟩
def RX5 : String := "ThawPoints"
def TX5 : u_T := fun k => match k with
  | 0 => ("ThawPoints", "state", "LThawPoints$State;", true)
  | 1 => ("ThawPoints", "snapshot", "LThawPoints$State;", true)
  | 2 => ("ThawPoints", "history", "LThawPoints$History;", true)
  | 3 => ("ThawPoints", "works", "LThawPoints$Works;", true)
  | _ => ("ThawPoints", "snapshotTaken", "Z", false)
def tyX5 : Nat → FieldType := fun k => match k with
  | 0 => .object "ThawPoints$State"
  | 1 => .object "ThawPoints$State"
  | 2 => .object "ThawPoints$History"
  | 3 => .object "ThawPoints$Works"
  | _ => .boolean
abbrev wsX50 : List Cond := u_ws RX5 TX5 5
theorem nmX5 : ∀ a, a < 5 → ∀ b, b < 5 → a ≠ b → (TX5 a).2.1 ≠ (TX5 b).2.1 := by decide +kernel
theorem tyX5_ok : ∀ k, k < 5 → parseFieldDescriptor (TX5 k).2.2.1 = some (tyX5 k) := by decide +kernel
abbrev cX5_init : ByteArray := prog_1_method_1_code
def yX5_init : MethodName := ⟨RX5, "<init>", "()V"⟩
abbrev cX5_make : ByteArray := prog_1_method_2_code
def yX5_make : MethodName := ⟨RX5, "make", "(III)I"⟩
abbrev cX5_breakOne : ByteArray := prog_1_method_3_code
def yX5_breakOne : MethodName := ⟨RX5, "breakOne", "(I)I"⟩
abbrev cX5_bath : ByteArray := prog_1_method_4_code
def yX5_bath : MethodName := ⟨RX5, "bath", "(II)I"⟩
abbrev cX5_pass : ByteArray := prog_1_method_5_code
def yX5_pass : MethodName := ⟨RX5, "pass", "(I)I"⟩
abbrev cX5_set : ByteArray := prog_1_method_6_code
def yX5_set : MethodName := ⟨RX5, "set", "(II)I"⟩
abbrev cX5_measure : ByteArray := prog_1_method_7_code
def yX5_measure : MethodName := ⟨RX5, "measure", "(II)I"⟩
abbrev cX5_forget : ByteArray := prog_1_method_8_code
def yX5_forget : MethodName := ⟨RX5, "forget", "(II)I"⟩
abbrev cX5_paper : ByteArray := prog_1_method_9_code
def yX5_paper : MethodName := ⟨RX5, "paper", "(I)I"⟩
abbrev cX5_stopped : ByteArray := prog_1_method_14_code
def yX5_stopped : MethodName := ⟨RX5, "stopped", "(I)I"⟩
abbrev cX5_undo : ByteArray := prog_1_method_15_code
def yX5_undo : MethodName := ⟨RX5, "undo", "()I"⟩
abbrev cX5_reads : ByteArray := prog_1_method_18_code
def yX5_reads : MethodName := ⟨RX5, "reads", "(II)I"⟩
abbrev cX5_corrected : ByteArray := prog_1_method_19_code
def yX5_corrected : MethodName := ⟨RX5, "corrected", "(III)I"⟩
abbrev cX5_thermometer : ByteArray := prog_1_method_20_code
def yX5_thermometer : MethodName := ⟨RX5, "thermometer", "(II)I"⟩
abbrev cX5_point : ByteArray := prog_1_method_21_code
def yX5_point : MethodName := ⟨RX5, "point", "(III)I"⟩
abbrev cX5_count : ByteArray := prog_1_method_22_code
def yX5_count : MethodName := ⟨RX5, "count", "(I)I"⟩
abbrev cX5_overlap : ByteArray := prog_1_method_24_code
def yX5_overlap : MethodName := ⟨RX5, "overlap", "(III)I"⟩
abbrev cX5_worstDegree : ByteArray := prog_1_method_25_code
def yX5_worstDegree : MethodName := ⟨RX5, "worstDegree", "(II)I"⟩
abbrev cX5_voidIn : ByteArray := prog_1_method_26_code
def yX5_voidIn : MethodName := ⟨RX5, "voidIn", "(I)I"⟩
abbrev cX5_validShare : ByteArray := prog_1_method_27_code
def yX5_validShare : MethodName := ⟨RX5, "validShare", "()D"⟩
abbrev cX5_isWithin : ByteArray := prog_1_method_29_code
def yX5_isWithin : MethodName := ⟨RX5, "isWithin", "(III)Z"⟩
abbrev cX5_needThermometer : ByteArray := prog_1_method_30_code
def yX5_needThermometer : MethodName := ⟨RX5, "needThermometer", "(I)V"⟩
abbrev cX5_needBath : ByteArray := prog_1_method_31_code
def yX5_needBath : MethodName := ⟨RX5, "needBath", "(I)V"⟩
abbrev cX5_needDegree : ByteArray := prog_1_method_32_code
def yX5_needDegree : MethodName := ⟨RX5, "needDegree", "(I)V"⟩
def RX6 : String := "ThawPointsModel"
def TX6 : u_T := fun k => match k with
  | _ => ("", "", "", false)
def tyX6 : Nat → FieldType := fun k => match k with
  | _ => .int
abbrev wsX60 : List Cond := u_ws RX6 TX6 0
theorem nmX6 : ∀ a, a < 0 → ∀ b, b < 0 → a ≠ b → (TX6 a).2.1 ≠ (TX6 b).2.1 := by decide +kernel
theorem tyX6_ok : ∀ k, k < 0 → parseFieldDescriptor (TX6 k).2.2.1 = some (tyX6 k) := by decide +kernel
def RJx8e188 : String := "java/lang/Cloneable"
def TJx8e188 : u_T := fun k => match k with
  | _ => ("", "", "", false)
def tyJx8e188 : Nat → FieldType := fun k => match k with
  | _ => .int
abbrev wsJx8e1880 : List Cond := u_ws RJx8e188 TJx8e188 0
theorem nmJx8e188 : ∀ a, a < 0 → ∀ b, b < 0 → a ≠ b → (TJx8e188 a).2.1 ≠ (TJx8e188 b).2.1 := by decide +kernel
theorem tyJx8e188_ok : ∀ k, k < 0 → parseFieldDescriptor (TJx8e188 k).2.2.1 = some (tyJx8e188 k) := by decide +kernel
def RJ9 : String := "java/lang/Math"
def TJ9 : u_T := fun k => match k with
  | _ => ("", "", "", false)
def tyJ9 : Nat → FieldType := fun k => match k with
  | _ => .int
abbrev wsJ90 : List Cond := u_ws RJ9 TJ9 0
theorem nmJ9 : ∀ a, a < 0 → ∀ b, b < 0 → a ≠ b → (TJ9 a).2.1 ≠ (TJ9 b).2.1 := by decide +kernel
theorem tyJ9_ok : ∀ k, k < 0 → parseFieldDescriptor (TJ9 k).2.2.1 = some (tyJ9 k) := by decide +kernel
abbrev cJ9_floorDiv_7cf53 : ByteArray := prog_14_method_47_code
def yJ9_floorDiv_7cf53 : MethodName := ⟨RJ9, "floorDiv", "(II)I"⟩
abbrev cJ9_abs_0f7a4 : ByteArray := prog_14_method_59_code
def yJ9_abs_0f7a4 : MethodName := ⟨RJ9, "abs", "(I)I"⟩
abbrev cJ9_max_7cf53 : ByteArray := prog_14_method_65_code
def yJ9_max_7cf53 : MethodName := ⟨RJ9, "max", "(II)I"⟩
def RJ0 : String := "java/lang/String"
def TJ0 : u_T := fun k => match k with
  | _ => ("", "", "", false)
def tyJ0 : Nat → FieldType := fun k => match k with
  | _ => .int
abbrev wsJ00 : List Cond := u_ws RJ0 TJ0 0
theorem nmJ0 : ∀ a, a < 0 → ∀ b, b < 0 → a ≠ b → (TJ0 a).2.1 ≠ (TJ0 b).2.1 := by decide +kernel
theorem tyJ0_ok : ∀ k, k < 0 → parseFieldDescriptor (TJ0 k).2.2.1 = some (tyJ0 k) := by decide +kernel
def RJ10 : String := "java/lang/System"
def TJ10 : u_T := fun k => match k with
  | _ => ("", "", "", false)
def tyJ10 : Nat → FieldType := fun k => match k with
  | _ => .int
abbrev wsJ100 : List Cond := u_ws RJ10 TJ10 0
theorem nmJ10 : ∀ a, a < 0 → ∀ b, b < 0 → a ≠ b → (TJ10 a).2.1 ≠ (TJ10 b).2.1 := by decide +kernel
theorem tyJ10_ok : ∀ k, k < 0 → parseFieldDescriptor (TJ10 k).2.2.1 = some (tyJ10 k) := by decide +kernel
def RL : String := "ThawPointsLaw"
abbrev cL_cell : ByteArray := method_2_code
def yL_cell : MethodName := ⟨RL, "cell", "([II)I"⟩
abbrev cL_low : ByteArray := method_3_code
def yL_low : MethodName := ⟨RL, "low", "(II)I"⟩
abbrev cL_changes : ByteArray := method_4_code
def yL_changes : MethodName := ⟨RL, "changes", "(LThawPoints;III[I)I"⟩
abbrev cL_makes : ByteArray := method_5_code
def yL_makes : MethodName := ⟨RL, "makes", "(LThawPoints;III[I)I"⟩
abbrev cL_act : ByteArray := method_6_code
def yL_act : MethodName := ⟨RL, "act", "(LThawPoints;I[I)I"⟩
abbrev cL_areAlike : ByteArray := method_7_code
def yL_areAlike : MethodName := ⟨RL, "areAlike", "(LThawPoints;LThawPoints;)Z"⟩
abbrev cL_arePointsSo : ByteArray := method_8_code
def yL_arePointsSo : MethodName := ⟨RL, "arePointsSo", "(LThawPoints;I)Z"⟩
abbrev cL_areReadingsSo : ByteArray := method_9_code
def yL_areReadingsSo : MethodName := ⟨RL, "areReadingsSo", "(LThawPoints;II)Z"⟩
abbrev cL_arePapersSo : ByteArray := method_10_code
def yL_arePapersSo : MethodName := ⟨RL, "arePapersSo", "(LThawPoints;I[I)Z"⟩
abbrev cL_areSums : ByteArray := method_11_code
def yL_areSums : MethodName := ⟨RL, "areSums", "(LThawPoints;)Z"⟩
abbrev cL_law : ByteArray := code
def yL_law : MethodName := ⟨RL, "law", "([I)Z"⟩
abbrev vwCl : List vw_C := [(RX0, TX0, 3), (RX1, TX1, 8), (RX2, TX2, 8), (RX3, TX3, 8), (RX4, TX4, 6), (RX5, TX5, 5)]
