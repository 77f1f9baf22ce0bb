def RX0 : String := "NotaryBook$Act"
def TX0 : u_T := fun k => match k with
  | 0 => ("NotaryBook$Act", "number", "I", false)
  | 1 => ("NotaryBook$Act", "kind", "I", false)
  | 2 => ("NotaryBook$Act", "stage", "I", false)
  | 3 => ("NotaryBook$Act", "witnesses", "I", false)
  | 4 => ("NotaryBook$Act", "marks", "I", false)
  | 5 => ("NotaryBook$Act", "first", "I", false)
  | 6 => ("NotaryBook$Act", "size", "I", false)
  | _ => ("NotaryBook$Act", "fee", "I", false)
def tyX0 : Nat → FieldType := fun k => match k with
  | 0 => .int
  | 1 => .int
  | 2 => .int
  | 3 => .int
  | 4 => .int
  | 5 => .int
  | 6 => .int
  | _ => .int
theorem nmX0 : ∀ a, a < 8 → ∀ b, b < 8 → a ≠ b → (TX0 a).2.1 ≠ (TX0 b).2.1 := by decide +kernel
theorem tyX0_ok : ∀ k, k < 8 → parseFieldDescriptor (TX0 k).2.2.1 = some (tyX0 k) := by decide +kernel
abbrev cX0_init : ByteArray := prog_2_method_1_code
def yX0_init : MethodName := ⟨RX0, "<init>", "()V"⟩
abbrev cX0_take : ByteArray := prog_2_method_2_code
def yX0_take : MethodName := ⟨RX0, "take", "(LNotaryBook$Act;)V"⟩
abbrev cX0_start : ByteArray := prog_2_method_3_code
def yX0_start : MethodName := ⟨RX0, "start", "(IIII)V"⟩
abbrev cX0_baseFee : ByteArray := prog_2_method_4_code
def yX0_baseFee : MethodName := ⟨RX0, "baseFee", "()I"⟩
def RX1 : String := "NotaryBook$Book"
def TX1 : u_T := fun k => match k with
  | 0 => ("NotaryBook$Book", "room", "I", false)
  | 1 => ("NotaryBook$Book", "need", "I", false)
  | 2 => ("NotaryBook$Book", "actCount", "I", false)
  | 3 => ("NotaryBook$Book", "copyCount", "I", false)
  | 4 => ("NotaryBook$Book", "cash", "I", false)
  | 5 => ("NotaryBook$Book", "burntFees", "I", false)
  | 6 => ("NotaryBook$Book", "acts", "[LNotaryBook$Act;", true)
  | 7 => ("NotaryBook$Book", "copies", "[LNotaryBook$Copy;", true)
  | 8 => ("NotaryBook$Book", "script", "LNotaryBook$Script;", true)
  | 9 => ("NotaryBook$Book", "leaves", "LNotaryBook$Leaves;", true)
  | 10 => ("NotaryBook$Book", "clause", "LNotaryBook$Clause;", true)
  | _ => ("NotaryBook$Book", "trialCopy", "LNotaryBook$Copy;", true)
def tyX1 : Nat → FieldType := fun k => match k with
  | 0 => .int
  | 1 => .int
  | 2 => .int
  | 3 => .int
  | 4 => .int
  | 5 => .int
  | 6 => .array (.object "NotaryBook$Act")
  | 7 => .array (.object "NotaryBook$Copy")
  | 8 => .object "NotaryBook$Script"
  | 9 => .object "NotaryBook$Leaves"
  | 10 => .object "NotaryBook$Clause"
  | _ => .object "NotaryBook$Copy"
theorem nmX1 : ∀ a, a < 12 → ∀ b, b < 12 → a ≠ b → (TX1 a).2.1 ≠ (TX1 b).2.1 := by decide +kernel
theorem tyX1_ok : ∀ k, k < 12 → parseFieldDescriptor (TX1 k).2.2.1 = some (tyX1 k) := by decide +kernel
abbrev cX1_init : ByteArray := prog_3_method_1_code
def yX1_init : MethodName := ⟨RX1, "<init>", "()V"⟩
abbrev cX1_take : ByteArray := prog_3_method_2_code
def yX1_take : MethodName := ⟨RX1, "take", "(LNotaryBook$Book;)V"⟩
abbrev cX1_clear : ByteArray := prog_3_method_3_code
def yX1_clear : MethodName := ⟨RX1, "clear", "()V"⟩
abbrev cX1_openAct : ByteArray := prog_3_method_4_code
def yX1_openAct : MethodName := ⟨RX1, "openAct", "()LNotaryBook$Act;"⟩
abbrev cX1_openNumber : ByteArray := prog_3_method_5_code
def yX1_openNumber : MethodName := ⟨RX1, "openNumber", "()I"⟩
abbrev cX1_openSize : ByteArray := prog_3_method_6_code
def yX1_openSize : MethodName := ⟨RX1, "openSize", "()I"⟩
abbrev cX1_openStanding : ByteArray := prog_3_method_7_code
def yX1_openStanding : MethodName := ⟨RX1, "openStanding", "()I"⟩
abbrev cX1_marksOfAll : ByteArray := prog_3_method_8_code
def yX1_marksOfAll : MethodName := ⟨RX1, "marksOfAll", "()I"⟩
abbrev cX1_actsAt : ByteArray := prog_3_method_9_code
def yX1_actsAt : MethodName := ⟨RX1, "actsAt", "(I)I"⟩
abbrev cX1_seekClauseAround : ByteArray := prog_3_method_13_code
def yX1_seekClauseAround : MethodName := ⟨RX1, "seekClauseAround", "(I)Z"⟩
abbrev cX1_leavesOf : ByteArray := prog_3_method_14_code
def yX1_leavesOf : MethodName := ⟨RX1, "leavesOf", "(I)I"⟩
abbrev cX1_leafOf : ByteArray := prog_3_method_15_code
def yX1_leafOf : MethodName := ⟨RX1, "leafOf", "(I)I"⟩
abbrev cX1_mostWords : ByteArray := prog_3_method_16_code
def yX1_mostWords : MethodName := ⟨RX1, "mostWords", "()I"⟩
abbrev cX1_wordsOn : ByteArray := prog_3_method_17_code
def yX1_wordsOn : MethodName := ⟨RX1, "wordsOn", "(I)I"⟩
abbrev cX1_isOn : ByteArray := prog_3_method_18_code
def yX1_isOn : MethodName := ⟨RX1, "isOn", "(LNotaryBook$Act;I)Z"⟩
abbrev cX1_actsOn : ByteArray := prog_3_method_19_code
def yX1_actsOn : MethodName := ⟨RX1, "actsOn", "(I)I"⟩
abbrev cX1_firstActOn : ByteArray := prog_3_method_20_code
def yX1_firstActOn : MethodName := ⟨RX1, "firstActOn", "(I)I"⟩
abbrev cX1_copiesWith : ByteArray := prog_3_method_21_code
def yX1_copiesWith : MethodName := ⟨RX1, "copiesWith", "(I)I"⟩
abbrev cX1_isKnown : ByteArray := prog_3_method_22_code
def yX1_isKnown : MethodName := ⟨RX1, "isKnown", "(I)Z"⟩
abbrev cX1_unknownFrom : ByteArray := prog_3_method_23_code
def yX1_unknownFrom : MethodName := ⟨RX1, "unknownFrom", "(II)I"⟩
abbrev cX1_wouldBeUnknown : ByteArray := prog_3_method_24_code
def yX1_wouldBeUnknown : MethodName := ⟨RX1, "wouldBeUnknown", "(I)I"⟩
abbrev cX1_copiesOf : ByteArray := prog_3_method_25_code
def yX1_copiesOf : MethodName := ⟨RX1, "copiesOf", "(I)I"⟩
abbrev cX1_knownByAlone : ByteArray := prog_3_method_26_code
def yX1_knownByAlone : MethodName := ⟨RX1, "knownByAlone", "(LNotaryBook$Copy;)I"⟩
abbrev cX1_copyReason : ByteArray := prog_3_method_27_code
def yX1_copyReason : MethodName := ⟨RX1, "copyReason", "(II)I"⟩
abbrev cX1_makeCopy : ByteArray := prog_3_method_29_code
def yX1_makeCopy : MethodName := ⟨RX1, "makeCopy", "(II)V"⟩
abbrev cX1_beginAct : ByteArray := prog_3_method_31_code
def yX1_beginAct : MethodName := ⟨RX1, "beginAct", "(II)V"⟩
abbrev cX1_strikeReason : ByteArray := prog_3_method_32_code
def yX1_strikeReason : MethodName := ⟨RX1, "strikeReason", "(I)I"⟩
abbrev cX1_strikeWord : ByteArray := prog_3_method_33_code
def yX1_strikeWord : MethodName := ⟨RX1, "strikeWord", "(I)V"⟩
abbrev cX1_strikeAround : ByteArray := prog_3_method_34_code
def yX1_strikeAround : MethodName := ⟨RX1, "strikeAround", "(I)I"⟩
abbrev cX1_canInsert : ByteArray := prog_3_method_35_code
def yX1_canInsert : MethodName := ⟨RX1, "canInsert", "(I)Z"⟩
abbrev cX1_insertWord : ByteArray := prog_3_method_36_code
def yX1_insertWord : MethodName := ⟨RX1, "insertWord", "(IJ)V"⟩
abbrev cX1_sealReason : ByteArray := prog_3_method_37_code
def yX1_sealReason : MethodName := ⟨RX1, "sealReason", "(II)I"⟩
abbrev cX1_sealOpen : ByteArray := prog_3_method_38_code
def yX1_sealOpen : MethodName := ⟨RX1, "sealOpen", "(I)I"⟩
abbrev cX1_cancelOpen : ByteArray := prog_3_method_39_code
def yX1_cancelOpen : MethodName := ⟨RX1, "cancelOpen", "()V"⟩
abbrev cX1_wordsGap : ByteArray := prog_3_method_40_code
def yX1_wordsGap : MethodName := ⟨RX1, "wordsGap", "()I"⟩
abbrev cX1_standingGap : ByteArray := prog_3_method_41_code
def yX1_standingGap : MethodName := ⟨RX1, "standingGap", "()I"⟩
abbrev cX1_cashGap : ByteArray := prog_3_method_42_code
def yX1_cashGap : MethodName := ⟨RX1, "cashGap", "()I"⟩
abbrev cX1_numbersGap : ByteArray := prog_3_method_43_code
def yX1_numbersGap : MethodName := ⟨RX1, "numbersGap", "()I"⟩
def RX2 : String := "NotaryBook$Clause"
def TX2 : u_T := fun k => match k with
  | 0 => ("NotaryBook$Clause", "first", "I", false)
  | 1 => ("NotaryBook$Clause", "size", "I", false)
  | 2 => ("NotaryBook$Clause", "depth", "I", false)
  | _ => ("NotaryBook$Clause", "children", "I", false)
def tyX2 : Nat → FieldType := fun k => match k with
  | 0 => .int
  | 1 => .int
  | 2 => .int
  | _ => .int
theorem nmX2 : ∀ a, a < 4 → ∀ b, b < 4 → a ≠ b → (TX2 a).2.1 ≠ (TX2 b).2.1 := by decide +kernel
theorem tyX2_ok : ∀ k, k < 4 → parseFieldDescriptor (TX2 k).2.2.1 = some (tyX2 k) := by decide +kernel
abbrev cX2_init : ByteArray := prog_4_method_1_code
def yX2_init : MethodName := ⟨RX2, "<init>", "()V"⟩
abbrev cX2_seek : ByteArray := prog_4_method_2_code
def yX2_seek : MethodName := ⟨RX2, "seek", "(LNotaryBook$Script;LNotaryBook$Act;I)Z"⟩
abbrev cX2_followFrom : ByteArray := prog_4_method_3_code
def yX2_followFrom : MethodName := ⟨RX2, "followFrom", "(LNotaryBook$Script;LNotaryBook$Act;I)V"⟩
def RX3 : String := "NotaryBook$Copy"
def TX3 : u_T := fun k => match k with
  | 0 => ("NotaryBook$Copy", "act", "I", false)
  | 1 => ("NotaryBook$Copy", "grade", "I", false)
  | 2 => ("NotaryBook$Copy", "first", "I", false)
  | 3 => ("NotaryBook$Copy", "last", "I", false)
  | _ => ("NotaryBook$Copy", "size", "I", false)
def tyX3 : Nat → FieldType := fun k => match k with
  | 0 => .int
  | 1 => .int
  | 2 => .int
  | 3 => .int
  | _ => .int
theorem nmX3 : ∀ a, a < 5 → ∀ b, b < 5 → a ≠ b → (TX3 a).2.1 ≠ (TX3 b).2.1 := by decide +kernel
theorem tyX3_ok : ∀ k, k < 5 → parseFieldDescriptor (TX3 k).2.2.1 = some (tyX3 k) := by decide +kernel
abbrev cX3_init : ByteArray := prog_5_method_1_code
def yX3_init : MethodName := ⟨RX3, "<init>", "()V"⟩
abbrev cX3_take : ByteArray := prog_5_method_2_code
def yX3_take : MethodName := ⟨RX3, "take", "(LNotaryBook$Copy;)V"⟩
abbrev cX3_draw : ByteArray := prog_5_method_3_code
def yX3_draw : MethodName := ⟨RX3, "draw", "(LNotaryBook$Script;LNotaryBook$Act;I)V"⟩
abbrev cX3_holds : ByteArray := prog_5_method_4_code
def yX3_holds : MethodName := ⟨RX3, "holds", "(LNotaryBook$Script;I)Z"⟩
abbrev cX3_fee : ByteArray := prog_5_method_5_code
def yX3_fee : MethodName := ⟨RX3, "fee", "()I"⟩
def RX4 : String := "NotaryBook$Leaves"
def TX4 : u_T := fun k => match k with
  | 0 => ("NotaryBook$Leaves", "gather", "I", false)
  | 1 => ("NotaryBook$Leaves", "size", "I", false)
  | 2 => ("NotaryBook$Leaves", "states", "[I", true)
  | _ => ("NotaryBook$Leaves", "fallen", "[Z", true)
def tyX4 : Nat → FieldType := fun k => match k with
  | 0 => .int
  | 1 => .int
  | 2 => .array .int
  | _ => .array .boolean
theorem nmX4 : ∀ a, a < 4 → ∀ b, b < 4 → a ≠ b → (TX4 a).2.1 ≠ (TX4 b).2.1 := by decide +kernel
theorem tyX4_ok : ∀ k, k < 4 → parseFieldDescriptor (TX4 k).2.2.1 = some (tyX4 k) := by decide +kernel
abbrev cX4_init : ByteArray := prog_6_method_1_code
def yX4_init : MethodName := ⟨RX4, "<init>", "()V"⟩
abbrev cX4_take : ByteArray := prog_6_method_2_code
def yX4_take : MethodName := ⟨RX4, "take", "(LNotaryBook$Leaves;)V"⟩
abbrev cX4_isThere : ByteArray := prog_6_method_3_code
def yX4_isThere : MethodName := ⟨RX4, "isThere", "(I)Z"⟩
abbrev cX4_stateOf : ByteArray := prog_6_method_4_code
def yX4_stateOf : MethodName := ⟨RX4, "stateOf", "(I)I"⟩
abbrev cX4_isLost : ByteArray := prog_6_method_5_code
def yX4_isLost : MethodName := ⟨RX4, "isLost", "(I)Z"⟩
abbrev cX4_isLoose : ByteArray := prog_6_method_6_code
def yX4_isLoose : MethodName := ⟨RX4, "isLoose", "(I)Z"⟩
abbrev cX4_countOf : ByteArray := prog_6_method_7_code
def yX4_countOf : MethodName := ⟨RX4, "countOf", "(I)I"⟩
abbrev cX4_gatheringOf : ByteArray := prog_6_method_8_code
def yX4_gatheringOf : MethodName := ⟨RX4, "gatheringOf", "(I)I"⟩
abbrev cX4_mateOf : ByteArray := prog_6_method_9_code
def yX4_mateOf : MethodName := ⟨RX4, "mateOf", "(I)I"⟩
abbrev cX4_fasten : ByteArray := prog_6_method_10_code
def yX4_fasten : MethodName := ⟨RX4, "fasten", "(I)V"⟩
abbrev cX4_drop : ByteArray := prog_6_method_11_code
def yX4_drop : MethodName := ⟨RX4, "drop", "(I)V"⟩
abbrev cX4_loosenMateOf : ByteArray := prog_6_method_12_code
def yX4_loosenMateOf : MethodName := ⟨RX4, "loosenMateOf", "(I)V"⟩
abbrev cX4_bringBack : ByteArray := prog_6_method_13_code
def yX4_bringBack : MethodName := ⟨RX4, "bringBack", "(I)V"⟩
abbrev cX4_dropLoose : ByteArray := prog_6_method_14_code
def yX4_dropLoose : MethodName := ⟨RX4, "dropLoose", "()I"⟩
abbrev cX4_extendTo : ByteArray := prog_6_method_15_code
def yX4_extendTo : MethodName := ⟨RX4, "extendTo", "(I)V"⟩
def RX5 : String := "NotaryBook$Parser"
def TX5 : u_T := fun k => match k with
  | 0 => ("NotaryBook$Parser", "errorCode", "I", false)
  | 1 => ("NotaryBook$Parser", "errorPlace", "I", false)
  | 2 => ("NotaryBook$Parser", "staged", "I", false)
  | 3 => ("NotaryBook$Parser", "scanner", "LNotaryBook$Scanner;", true)
  | _ => ("NotaryBook$Parser", "book", "LNotaryBook$Book;", false)
def tyX5 : Nat → FieldType := fun k => match k with
  | 0 => .int
  | 1 => .int
  | 2 => .int
  | 3 => .object "NotaryBook$Scanner"
  | _ => .object "NotaryBook$Book"
theorem nmX5 : ∀ a, a < 5 → ∀ b, b < 5 → a ≠ b → (TX5 a).2.1 ≠ (TX5 b).2.1 := by decide +kernel
theorem tyX5_ok : ∀ k, k < 5 → parseFieldDescriptor (TX5 k).2.2.1 = some (tyX5 k) := by decide +kernel
abbrev cX5_init : ByteArray := prog_7_method_1_code
def yX5_init : MethodName := ⟨RX5, "<init>", "()V"⟩
abbrev cX5_fail : ByteArray := prog_7_method_2_code
def yX5_fail : MethodName := ⟨RX5, "fail", "(I)Z"⟩
abbrev cX5_readText : ByteArray := prog_7_method_3_code
def yX5_readText : MethodName := ⟨RX5, "readText", "([BILNotaryBook$Book;)Z"⟩
abbrev cX5_isAtWord : ByteArray := prog_7_method_5_code
def yX5_isAtWord : MethodName := ⟨RX5, "isAtWord", "(Ljava/lang/String;)Z"⟩
abbrev cX5_checkNumber : ByteArray := prog_7_method_6_code
def yX5_checkNumber : MethodName := ⟨RX5, "checkNumber", "(II)Z"⟩
abbrev cX5_checkNextNumber : ByteArray := prog_7_method_7_code
def yX5_checkNextNumber : MethodName := ⟨RX5, "checkNextNumber", "(II)Z"⟩
abbrev cX5_finishLine : ByteArray := prog_7_method_8_code
def yX5_finishLine : MethodName := ⟨RX5, "finishLine", "()Z"⟩
abbrev cX5_readHead : ByteArray := prog_7_method_9_code
def yX5_readHead : MethodName := ⟨RX5, "readHead", "()Z"⟩
abbrev cX5_readLine : ByteArray := prog_7_method_10_code
def yX5_readLine : MethodName := ⟨RX5, "readLine", "()Z"⟩
abbrev cX5_readActLine : ByteArray := prog_7_method_11_code
def yX5_readActLine : MethodName := ⟨RX5, "readActLine", "()Z"⟩
abbrev cX5_kindAtWord : ByteArray := prog_7_method_12_code
def yX5_kindAtWord : MethodName := ⟨RX5, "kindAtWord", "()I"⟩
abbrev cX5_readBody : ByteArray := prog_7_method_13_code
def yX5_readBody : MethodName := ⟨RX5, "readBody", "()Z"⟩
abbrev cX5_readStrikeLine : ByteArray := prog_7_method_14_code
def yX5_readStrikeLine : MethodName := ⟨RX5, "readStrikeLine", "()Z"⟩
abbrev cX5_readOutLine : ByteArray := prog_7_method_15_code
def yX5_readOutLine : MethodName := ⟨RX5, "readOutLine", "()Z"⟩
abbrev cX5_readInsertLine : ByteArray := prog_7_method_16_code
def yX5_readInsertLine : MethodName := ⟨RX5, "readInsertLine", "()Z"⟩
abbrev cX5_readSealLine : ByteArray := prog_7_method_17_code
def yX5_readSealLine : MethodName := ⟨RX5, "readSealLine", "()Z"⟩
abbrev cX5_readCancelLine : ByteArray := prog_7_method_18_code
def yX5_readCancelLine : MethodName := ⟨RX5, "readCancelLine", "()Z"⟩
abbrev cX5_readCopyLine : ByteArray := prog_7_method_19_code
def yX5_readCopyLine : MethodName := ⟨RX5, "readCopyLine", "()Z"⟩
abbrev cX5_readLeafLine : ByteArray := prog_7_method_20_code
def yX5_readLeafLine : MethodName := ⟨RX5, "readLeafLine", "()Z"⟩
def RX6 : String := "NotaryBook$Pen"
def TX6 : u_T := fun k => match k with
  | _ => ("NotaryBook$Pen", "text", "Ljava/lang/StringBuilder;", true)
def tyX6 : Nat → FieldType := fun k => match k with
  | _ => .object "java/lang/StringBuilder"
theorem nmX6 : ∀ a, a < 1 → ∀ b, b < 1 → a ≠ b → (TX6 a).2.1 ≠ (TX6 b).2.1 := by decide +kernel
theorem tyX6_ok : ∀ k, k < 1 → parseFieldDescriptor (TX6 k).2.2.1 = some (tyX6 k) := by decide +kernel
abbrev cX6_init : ByteArray := prog_8_method_1_code
def yX6_init : MethodName := ⟨RX6, "<init>", "()V"⟩
def RX7 : String := "NotaryBook$Scanner"
def TX7 : u_T := fun k => match k with
  | 0 => ("NotaryBook$Scanner", "bytes", "[B", false)
  | 1 => ("NotaryBook$Scanner", "next", "I", false)
  | 2 => ("NotaryBook$Scanner", "end", "I", false)
  | 3 => ("NotaryBook$Scanner", "kind", "I", false)
  | 4 => ("NotaryBook$Scanner", "start", "I", false)
  | 5 => ("NotaryBook$Scanner", "number", "I", false)
  | _ => ("NotaryBook$Scanner", "word", "J", false)
def tyX7 : Nat → FieldType := fun k => match k with
  | 0 => .array .byte
  | 1 => .int
  | 2 => .int
  | 3 => .int
  | 4 => .int
  | 5 => .int
  | _ => .long
theorem nmX7 : ∀ a, a < 7 → ∀ b, b < 7 → a ≠ b → (TX7 a).2.1 ≠ (TX7 b).2.1 := by decide +kernel
theorem tyX7_ok : ∀ k, k < 7 → parseFieldDescriptor (TX7 k).2.2.1 = some (tyX7 k) := by decide +kernel
abbrev cX7_init : ByteArray := prog_9_method_1_code
def yX7_init : MethodName := ⟨RX7, "<init>", "()V"⟩
abbrev cX7_startAt : ByteArray := prog_9_method_2_code
def yX7_startAt : MethodName := ⟨RX7, "startAt", "([BI)V"⟩
abbrev cX7_step : ByteArray := prog_9_method_3_code
def yX7_step : MethodName := ⟨RX7, "step", "()V"⟩
abbrev cX7_isDigit : ByteArray := prog_9_method_4_code
def yX7_isDigit : MethodName := ⟨RX7, "isDigit", "(I)Z"⟩
abbrev cX7_kindOfSign : ByteArray := prog_9_method_5_code
def yX7_kindOfSign : MethodName := ⟨RX7, "kindOfSign", "(I)I"⟩
abbrev cX7_readWord : ByteArray := prog_9_method_6_code
def yX7_readWord : MethodName := ⟨RX7, "readWord", "()V"⟩
abbrev cX7_readNumber : ByteArray := prog_9_method_7_code
def yX7_readNumber : MethodName := ⟨RX7, "readNumber", "()V"⟩
def RX8 : String := "NotaryBook$Script"
def TX8 : u_T := fun k => match k with
  | 0 => ("NotaryBook$Script", "size", "I", false)
  | 1 => ("NotaryBook$Script", "words", "[J", true)
  | 2 => ("NotaryBook$Script", "opens", "[I", true)
  | 3 => ("NotaryBook$Script", "closes", "[I", true)
  | 4 => ("NotaryBook$Script", "struck", "[Z", true)
  | 5 => ("NotaryBook$Script", "inserted", "[I", true)
  | _ => ("NotaryBook$Script", "inserts", "[J", true)
def tyX8 : Nat → FieldType := fun k => match k with
  | 0 => .int
  | 1 => .array .long
  | 2 => .array .int
  | 3 => .array .int
  | 4 => .array .boolean
  | 5 => .array .int
  | _ => .array .long
theorem nmX8 : ∀ a, a < 7 → ∀ b, b < 7 → a ≠ b → (TX8 a).2.1 ≠ (TX8 b).2.1 := by decide +kernel
theorem tyX8_ok : ∀ k, k < 7 → parseFieldDescriptor (TX8 k).2.2.1 = some (tyX8 k) := by decide +kernel
abbrev cX8_init : ByteArray := prog_10_method_1_code
def yX8_init : MethodName := ⟨RX8, "<init>", "()V"⟩
abbrev cX8_take : ByteArray := prog_10_method_2_code
def yX8_take : MethodName := ⟨RX8, "take", "(LNotaryBook$Script;)V"⟩
abbrev cX8_stage : ByteArray := prog_10_method_3_code
def yX8_stage : MethodName := ⟨RX8, "stage", "(IJI)V"⟩
abbrev cX8_closeBehind : ByteArray := prog_10_method_4_code
def yX8_closeBehind : MethodName := ⟨RX8, "closeBehind", "(I)V"⟩
abbrev cX8_insert : ByteArray := prog_10_method_5_code
def yX8_insert : MethodName := ⟨RX8, "insert", "(IJ)V"⟩
abbrev cX8_unstruckFrom : ByteArray := prog_10_method_7_code
def yX8_unstruckFrom : MethodName := ⟨RX8, "unstruckFrom", "(II)I"⟩
abbrev cX8_standingFrom : ByteArray := prog_10_method_8_code
def yX8_standingFrom : MethodName := ⟨RX8, "standingFrom", "(II)I"⟩
abbrev cX8_standingByClauses : ByteArray := prog_10_method_9_code
def yX8_standingByClauses : MethodName := ⟨RX8, "standingByClauses", "(II)I"⟩
abbrev cX8_strikeFrom : ByteArray := prog_10_method_10_code
def yX8_strikeFrom : MethodName := ⟨RX8, "strikeFrom", "(II)I"⟩
abbrev cX8_clausesFrom : ByteArray := prog_10_method_13_code
def yX8_clausesFrom : MethodName := ⟨RX8, "clausesFrom", "(II)I"⟩
abbrev cX8_greatestDepth : ByteArray := prog_10_method_14_code
def yX8_greatestDepth : MethodName := ⟨RX8, "greatestDepth", "(II)I"⟩
abbrev cX8_depthOf : ByteArray := prog_10_method_15_code
def yX8_depthOf : MethodName := ⟨RX8, "depthOf", "(II)I"⟩
abbrev cX8_innermostOf : ByteArray := prog_10_method_16_code
def yX8_innermostOf : MethodName := ⟨RX8, "innermostOf", "(II)I"⟩
def RX9 : String := "NotaryBook"
def TX9 : u_T := fun k => match k with
  | 0 => ("NotaryBook", "input", "[B", true)
  | 1 => ("NotaryBook", "inputSize", "I", false)
  | 2 => ("NotaryBook", "errorCode", "I", false)
  | 3 => ("NotaryBook", "errorPlace", "I", false)
  | 4 => ("NotaryBook", "loaded", "Z", false)
  | 5 => ("NotaryBook", "book", "LNotaryBook$Book;", false)
  | 6 => ("NotaryBook", "spare", "LNotaryBook$Book;", false)
  | 7 => ("NotaryBook", "parser", "LNotaryBook$Parser;", true)
  | 8 => ("NotaryBook", "past", "[LNotaryBook$Book;", true)
  | 9 => ("NotaryBook", "pastStart", "I", false)
  | 10 => ("NotaryBook", "pastSize", "I", false)
  | 11 => ("NotaryBook", "slots", "[LNotaryBook$Book;", true)
  | 12 => ("NotaryBook", "slotFilled", "[Z", true)
  | 13 => ("NotaryBook", "trialLeaves", "LNotaryBook$Leaves;", true)
  | _ => ("NotaryBook", "pen", "LNotaryBook$Pen;", true)
def tyX9 : Nat → FieldType := fun k => match k with
  | 0 => .array .byte
  | 1 => .int
  | 2 => .int
  | 3 => .int
  | 4 => .boolean
  | 5 => .object "NotaryBook$Book"
  | 6 => .object "NotaryBook$Book"
  | 7 => .object "NotaryBook$Parser"
  | 8 => .array (.object "NotaryBook$Book")
  | 9 => .int
  | 10 => .int
  | 11 => .array (.object "NotaryBook$Book")
  | 12 => .array .boolean
  | 13 => .object "NotaryBook$Leaves"
  | _ => .object "NotaryBook$Pen"
theorem nmX9 : ∀ a, a < 15 → ∀ b, b < 15 → a ≠ b → (TX9 a).2.1 ≠ (TX9 b).2.1 := by decide +kernel
theorem tyX9_ok : ∀ k, k < 15 → parseFieldDescriptor (TX9 k).2.2.1 = some (tyX9 k) := by decide +kernel
abbrev cX9_init : ByteArray := prog_1_method_1_code
def yX9_init : MethodName := ⟨RX9, "<init>", "()V"⟩
abbrev cX9_append : ByteArray := prog_1_method_2_code
def yX9_append : MethodName := ⟨RX9, "append", "(IIIII)I"⟩
abbrev cX9_putFourBytes : ByteArray := prog_1_method_3_code
def yX9_putFourBytes : MethodName := ⟨RX9, "putFourBytes", "(I)V"⟩
abbrev cX9_load : ByteArray := prog_1_method_4_code
def yX9_load : MethodName := ⟨RX9, "load", "(I)I"⟩
abbrev cX9_count : ByteArray := prog_1_method_8_code
def yX9_count : MethodName := ⟨RX9, "count", "(I)I"⟩
abbrev cX9_act : ByteArray := prog_1_method_9_code
def yX9_act : MethodName := ⟨RX9, "act", "(II)I"⟩
abbrev cX9_word : ByteArray := prog_1_method_10_code
def yX9_word : MethodName := ⟨RX9, "word", "(III)I"⟩
abbrev cX9_leaf : ByteArray := prog_1_method_14_code
def yX9_leaf : MethodName := ⟨RX9, "leaf", "(II)I"⟩
abbrev cX9_copy : ByteArray := prog_1_method_15_code
def yX9_copy : MethodName := ⟨RX9, "copy", "(II)I"⟩
abbrev cX9_has : ByteArray := prog_1_method_16_code
def yX9_has : MethodName := ⟨RX9, "has", "(II)Z"⟩
abbrev cX9_gap : ByteArray := prog_1_method_19_code
def yX9_gap : MethodName := ⟨RX9, "gap", "()I"⟩
abbrev cX9_whyNotSeal : ByteArray := prog_1_method_20_code
def yX9_whyNotSeal : MethodName := ⟨RX9, "whyNotSeal", "(II)I"⟩
abbrev cX9_whyNotCopy : ByteArray := prog_1_method_21_code
def yX9_whyNotCopy : MethodName := ⟨RX9, "whyNotCopy", "(II)I"⟩
abbrev cX9_whyNotStrike : ByteArray := prog_1_method_22_code
def yX9_whyNotStrike : MethodName := ⟨RX9, "whyNotStrike", "(I)I"⟩
abbrev cX9_unknownIf : ByteArray := prog_1_method_23_code
def yX9_unknownIf : MethodName := ⟨RX9, "unknownIf", "(I)I"⟩
abbrev cX9_shakenOut : ByteArray := prog_1_method_25_code
def yX9_shakenOut : MethodName := ⟨RX9, "shakenOut", "()I"⟩
abbrev cX9_copyWords : ByteArray := prog_1_method_27_code
def yX9_copyWords : MethodName := ⟨RX9, "copyWords", "(II)I"⟩
abbrev cX9_standingIf : ByteArray := prog_1_method_29_code
def yX9_standingIf : MethodName := ⟨RX9, "standingIf", "(IZ)I"⟩
abbrev cX9_strike : ByteArray := prog_1_method_43_code
def yX9_strike : MethodName := ⟨RX9, "strike", "(I)I"⟩
abbrev cX9_strikeClause : ByteArray := prog_1_method_44_code
def yX9_strikeClause : MethodName := ⟨RX9, "strikeClause", "(I)I"⟩
abbrev cX9_interline : ByteArray := prog_1_method_45_code
def yX9_interline : MethodName := ⟨RX9, "interline", "(II)I"⟩
abbrev cX9_seal : ByteArray := prog_1_method_46_code
def yX9_seal : MethodName := ⟨RX9, "seal", "(II)I"⟩
abbrev cX9_cancel : ByteArray := prog_1_method_47_code
def yX9_cancel : MethodName := ⟨RX9, "cancel", "()I"⟩
abbrev cX9_addCopy : ByteArray := prog_1_method_48_code
def yX9_addCopy : MethodName := ⟨RX9, "addCopy", "(II)I"⟩
abbrev cX9_lose : ByteArray := prog_1_method_50_code
def yX9_lose : MethodName := ⟨RX9, "lose", "(I)I"⟩
abbrev cX9_recover : ByteArray := prog_1_method_51_code
def yX9_recover : MethodName := ⟨RX9, "recover", "(I)I"⟩
abbrev cX9_shake : ByteArray := prog_1_method_53_code
def yX9_shake : MethodName := ⟨RX9, "shake", "()I"⟩
abbrev cX9_undoable : ByteArray := prog_1_method_55_code
def yX9_undoable : MethodName := ⟨RX9, "undoable", "()I"⟩
abbrev cX9_save : ByteArray := prog_1_method_56_code
def yX9_save : MethodName := ⟨RX9, "save", "(I)I"⟩
abbrev cX9_restore : ByteArray := prog_1_method_57_code
def yX9_restore : MethodName := ⟨RX9, "restore", "(I)I"⟩
abbrev cX9_remember : ByteArray := prog_1_method_58_code
def yX9_remember : MethodName := ⟨RX9, "remember", "()V"⟩
abbrev cX9_forgetPast : ByteArray := prog_1_method_59_code
def yX9_forgetPast : MethodName := ⟨RX9, "forgetPast", "()V"⟩
abbrev cX9_rowAt : ByteArray := prog_1_method_60_code
def yX9_rowAt : MethodName := ⟨RX9, "rowAt", "([LNotaryBook$Book;I)LNotaryBook$Book;"⟩
abbrev cX9_requireBook : ByteArray := prog_1_method_61_code
def yX9_requireBook : MethodName := ⟨RX9, "requireBook", "()V"⟩
abbrev cX9_requireBytes : ByteArray := prog_1_method_62_code
def yX9_requireBytes : MethodName := ⟨RX9, "requireBytes", "(I)V"⟩
abbrev cX9_requireUpTo : ByteArray := prog_1_method_63_code
def yX9_requireUpTo : MethodName := ⟨RX9, "requireUpTo", "(II)V"⟩
abbrev cX9_requireAct : ByteArray := prog_1_method_64_code
def yX9_requireAct : MethodName := ⟨RX9, "requireAct", "(I)LNotaryBook$Act;"⟩
abbrev cX9_requireWord : ByteArray := prog_1_method_65_code
def yX9_requireWord : MethodName := ⟨RX9, "requireWord", "(LNotaryBook$Act;I)I"⟩
abbrev cX9_requireCopy : ByteArray := prog_1_method_66_code
def yX9_requireCopy : MethodName := ⟨RX9, "requireCopy", "(I)LNotaryBook$Copy;"⟩
abbrev cX9_requireLeaf : ByteArray := prog_1_method_67_code
def yX9_requireLeaf : MethodName := ⟨RX9, "requireLeaf", "(I)V"⟩
abbrev cX9_requireLeafAt : ByteArray := prog_1_method_68_code
def yX9_requireLeafAt : MethodName := ⟨RX9, "requireLeafAt", "(IZ)V"⟩
abbrev cX9_requireSlot : ByteArray := prog_1_method_69_code
def yX9_requireSlot : MethodName := ⟨RX9, "requireSlot", "(I)V"⟩
abbrev cX9_isLetter : ByteArray := prog_1_method_70_code
def yX9_isLetter : MethodName := ⟨RX9, "isLetter", "(I)Z"⟩
abbrev cX9_joined : ByteArray := prog_1_method_71_code
def yX9_joined : MethodName := ⟨RX9, "joined", "(JI)J"⟩
abbrev cX9_lettersIn : ByteArray := prog_1_method_72_code
def yX9_lettersIn : MethodName := ⟨RX9, "lettersIn", "(J)I"⟩
abbrev cX9_packed : ByteArray := prog_1_method_74_code
def yX9_packed : MethodName := ⟨RX9, "packed", "(Ljava/lang/String;)J"⟩
abbrev cX9_inputWord : ByteArray := prog_1_method_75_code
def yX9_inputWord : MethodName := ⟨RX9, "inputWord", "(I)J"⟩
def RX10 : String := "NotaryBookLaw$Act"
def TX10 : u_T := fun k => match k with
  | 0 => ("NotaryBookLaw$Act", "words", "Ljava/util/ArrayList;", true)
  | 1 => ("NotaryBookLaw$Act", "kind", "I", false)
  | 2 => ("NotaryBookLaw$Act", "status", "I", false)
  | 3 => ("NotaryBookLaw$Act", "witnesses", "I", false)
  | 4 => ("NotaryBookLaw$Act", "marks", "I", false)
  | 5 => ("NotaryBookLaw$Act", "fee", "I", false)
  | 6 => ("NotaryBookLaw$Act", "clauses", "I", false)
  | _ => ("NotaryBookLaw$Act", "text", "Ljava/lang/String;", false)
def tyX10 : Nat → FieldType := fun k => match k with
  | 0 => .object "java/util/ArrayList"
  | 1 => .int
  | 2 => .int
  | 3 => .int
  | 4 => .int
  | 5 => .int
  | 6 => .int
  | _ => .object "java/lang/String"
theorem nmX10 : ∀ a, a < 8 → ∀ b, b < 8 → a ≠ b → (TX10 a).2.1 ≠ (TX10 b).2.1 := by decide +kernel
theorem tyX10_ok : ∀ k, k < 8 → parseFieldDescriptor (TX10 k).2.2.1 = some (tyX10 k) := by decide +kernel
abbrev cX10_init : ByteArray := prog_12_method_1_code
def yX10_init : MethodName := ⟨RX10, "<init>", "()V"⟩
abbrev cX10_standing : ByteArray := prog_12_method_3_code
def yX10_standing : MethodName := ⟨RX10, "standing", "()I"⟩
def RX11 : String := "NotaryBookLaw$Desk"
def TX11 : u_T := fun k => match k with
  | 0 => ("NotaryBookLaw$Desk", "room", "I", false)
  | 1 => ("NotaryBookLaw$Desk", "need", "I", false)
  | 2 => ("NotaryBookLaw$Desk", "gather", "I", false)
  | 3 => ("NotaryBookLaw$Desk", "cash", "I", false)
  | 4 => ("NotaryBookLaw$Desk", "acts", "Ljava/util/ArrayList;", true)
  | 5 => ("NotaryBookLaw$Desk", "copies", "Ljava/util/ArrayList;", true)
  | _ => ("NotaryBookLaw$Desk", "leaves", "[I", true)
def tyX11 : Nat → FieldType := fun k => match k with
  | 0 => .int
  | 1 => .int
  | 2 => .int
  | 3 => .int
  | 4 => .object "java/util/ArrayList"
  | 5 => .object "java/util/ArrayList"
  | _ => .array .int
theorem nmX11 : ∀ a, a < 7 → ∀ b, b < 7 → a ≠ b → (TX11 a).2.1 ≠ (TX11 b).2.1 := by decide +kernel
theorem tyX11_ok : ∀ k, k < 7 → parseFieldDescriptor (TX11 k).2.2.1 = some (tyX11 k) := by decide +kernel
abbrev cX11_init : ByteArray := prog_13_method_1_code
def yX11_init : MethodName := ⟨RX11, "<init>", "()V"⟩
abbrev cX11_words : ByteArray := prog_13_method_3_code
def yX11_words : MethodName := ⟨RX11, "words", "()I"⟩
abbrev cX11_many : ByteArray := prog_13_method_4_code
def yX11_many : MethodName := ⟨RX11, "many", "()I"⟩
abbrev cX11_mate : ByteArray := prog_13_method_7_code
def yX11_mate : MethodName := ⟨RX11, "mate", "(I)I"⟩
abbrev cX11_begin : ByteArray := prog_13_method_18_code
def yX11_begin : MethodName := ⟨RX11, "begin", "(II)LNotaryBookLaw$Act;"⟩
def RX12 : String := "NotaryBookLaw$Word"
def TX12 : u_T := fun k => match k with
  | 0 => ("NotaryBookLaw$Word", "text", "Ljava/lang/String;", true)
  | 1 => ("NotaryBookLaw$Word", "around", "[I", true)
  | 2 => ("NotaryBookLaw$Word", "struck", "Z", false)
  | _ => ("NotaryBookLaw$Word", "inner", "Ljava/lang/String;", false)
def tyX12 : Nat → FieldType := fun k => match k with
  | 0 => .object "java/lang/String"
  | 1 => .array .int
  | 2 => .boolean
  | _ => .object "java/lang/String"
theorem nmX12 : ∀ a, a < 4 → ∀ b, b < 4 → a ≠ b → (TX12 a).2.1 ≠ (TX12 b).2.1 := by decide +kernel
theorem tyX12_ok : ∀ k, k < 4 → parseFieldDescriptor (TX12 k).2.2.1 = some (tyX12 k) := by decide +kernel
abbrev cX12_init : ByteArray := prog_14_method_1_code
def yX12_init : MethodName := ⟨RX12, "<init>", "(Ljava/lang/String;[I)V"⟩
abbrev cX12_inners : ByteArray := prog_14_method_3_code
def yX12_inners : MethodName := ⟨RX12, "inners", "()I"⟩
def RX13 : String := "NotaryBookModel"
def TX13 : u_T := fun k => match k with
  | _ => ("", "", "", false)
def tyX13 : Nat → FieldType := fun k => match k with
  | _ => .int
theorem nmX13 : ∀ a, a < 0 → ∀ b, b < 0 → a ≠ b → (TX13 a).2.1 ≠ (TX13 b).2.1 := by decide +kernel
theorem tyX13_ok : ∀ k, k < 0 → parseFieldDescriptor (TX13 k).2.2.1 = some (tyX13 k) := by decide +kernel
def RJx145de : String := "java/io/Serializable"
def TJx145de : u_T := fun k => match k with
  | _ => ("", "", "", false)
def tyJx145de : Nat → FieldType := fun k => match k with
  | _ => .int
theorem nmJx145de : ∀ a, a < 0 → ∀ b, b < 0 → a ≠ b → (TJx145de a).2.1 ≠ (TJx145de b).2.1 := by decide +kernel
theorem tyJx145de_ok : ∀ k, k < 0 → parseFieldDescriptor (TJx145de k).2.2.1 = some (tyJx145de k) := by decide +kernel
def RJ5 : String := "java/lang/AbstractStringBuilder"
def TJ5 : u_T := fun k => match k with
  | _ => ("", "", "", false)
def tyJ5 : Nat → FieldType := fun k => match k with
  | _ => .int
theorem nmJ5 : ∀ a, a < 0 → ∀ b, b < 0 → a ≠ b → (TJ5 a).2.1 ≠ (TJ5 b).2.1 := by decide +kernel
theorem tyJ5_ok : ∀ k, k < 0 → parseFieldDescriptor (TJ5 k).2.2.1 = some (tyJ5 k) := by decide +kernel
abbrev cJ5_init_d00df : ByteArray := prog_17_method_2_code
def yJ5_init_d00df : MethodName := ⟨RJ5, "<init>", "(I)V"⟩
abbrev cJ5_init_a7421 : ByteArray := prog_17_method_3_code
def yJ5_init_a7421 : MethodName := ⟨RJ5, "<init>", "(Ljava/lang/String;)V"⟩
abbrev cJ5_length_8abf5 : ByteArray := prog_17_method_6_code
def yJ5_length_8abf5 : MethodName := ⟨RJ5, "length", "()I"⟩
abbrev cJ5_ensureCapacityInternal_d00df : ByteArray := prog_17_method_9_code
def yJ5_ensureCapacityInternal_d00df : MethodName := ⟨RJ5, "ensureCapacityInternal", "(I)V"⟩
abbrev cJ5_newCapacity_0f7a4 : ByteArray := prog_17_method_10_code
def yJ5_newCapacity_0f7a4 : MethodName := ⟨RJ5, "newCapacity", "(I)I"⟩
abbrev cJ5_inflate_da8c8 : ByteArray := prog_17_method_11_code
def yJ5_inflate_da8c8 : MethodName := ⟨RJ5, "inflate", "()V"⟩
abbrev cJ5_charAt_5068e : ByteArray := prog_17_method_14_code
def yJ5_charAt_5068e : MethodName := ⟨RJ5, "charAt", "(I)C"⟩
abbrev cJ5_append_cf1ce : ByteArray := prog_17_method_22_code
def yJ5_append_cf1ce : MethodName := ⟨RJ5, "append", "(Ljava/lang/String;)Ljava/lang/AbstractStringBuilder;"⟩
abbrev cJ5_appendNull_278bc : ByteArray := prog_17_method_26_code
def yJ5_appendNull_278bc : MethodName := ⟨RJ5, "appendNull", "()Ljava/lang/AbstractStringBuilder;"⟩
abbrev cJ5_append_3fe6f : ByteArray := prog_17_method_31_code
def yJ5_append_3fe6f : MethodName := ⟨RJ5, "append", "(C)Ljava/lang/AbstractStringBuilder;"⟩
abbrev cJ5_append_c97b9 : ByteArray := prog_17_method_32_code
def yJ5_append_c97b9 : MethodName := ⟨RJ5, "append", "(I)Ljava/lang/AbstractStringBuilder;"⟩
abbrev cJ5_getValue_6d5f1 : ByteArray := prog_17_method_64_code
def yJ5_getValue_6d5f1 : MethodName := ⟨RJ5, "getValue", "()[B"⟩
abbrev cJ5_isLatin1_aae02 : ByteArray := prog_17_method_68_code
def yJ5_isLatin1_aae02 : MethodName := ⟨RJ5, "isLatin1", "()Z"⟩
abbrev cJ5_inflateIfNeededFor_a7421 : ByteArray := prog_17_method_71_code
def yJ5_inflateIfNeededFor_a7421 : MethodName := ⟨RJ5, "inflateIfNeededFor", "(Ljava/lang/String;)V"⟩
abbrev cJ5_putStringAt_47b60 : ByteArray := prog_17_method_73_code
def yJ5_putStringAt_47b60 : MethodName := ⟨RJ5, "putStringAt", "(ILjava/lang/String;)V"⟩
def RJx2cfe8 : String := "java/lang/Appendable"
def TJx2cfe8 : u_T := fun k => match k with
  | _ => ("", "", "", false)
def tyJx2cfe8 : Nat → FieldType := fun k => match k with
  | _ => .int
theorem nmJx2cfe8 : ∀ a, a < 0 → ∀ b, b < 0 → a ≠ b → (TJx2cfe8 a).2.1 ≠ (TJx2cfe8 b).2.1 := by decide +kernel
theorem tyJx2cfe8_ok : ∀ k, k < 0 → parseFieldDescriptor (TJx2cfe8 k).2.2.1 = some (tyJx2cfe8 k) := by decide +kernel
def RJx9f9b0 : String := "java/lang/CharSequence"
def TJx9f9b0 : u_T := fun k => match k with
  | _ => ("", "", "", false)
def tyJx9f9b0 : Nat → FieldType := fun k => match k with
  | _ => .int
theorem nmJx9f9b0 : ∀ a, a < 0 → ∀ b, b < 0 → a ≠ b → (TJx9f9b0 a).2.1 ≠ (TJx9f9b0 b).2.1 := by decide +kernel
theorem tyJx9f9b0_ok : ∀ k, k < 0 → parseFieldDescriptor (TJx9f9b0 k).2.2.1 = some (tyJx9f9b0 k) := by decide +kernel
def RJx8e188 : String := "java/lang/Cloneable"
def TJx8e188 : u_T := fun k => match k with
  | _ => ("", "", "", false)
def tyJx8e188 : Nat → FieldType := fun k => match k with
  | _ => .int
theorem nmJx8e188 : ∀ a, a < 0 → ∀ b, b < 0 → a ≠ b → (TJx8e188 a).2.1 ≠ (TJx8e188 b).2.1 := by decide +kernel
theorem tyJx8e188_ok : ∀ k, k < 0 → parseFieldDescriptor (TJx8e188 k).2.2.1 = some (tyJx8e188 k) := by decide +kernel
def RJxb160c : String := "java/lang/Comparable"
def TJxb160c : u_T := fun k => match k with
  | _ => ("", "", "", false)
def tyJxb160c : Nat → FieldType := fun k => match k with
  | _ => .int
theorem nmJxb160c : ∀ a, a < 0 → ∀ b, b < 0 → a ≠ b → (TJxb160c a).2.1 ≠ (TJxb160c b).2.1 := by decide +kernel
theorem tyJxb160c_ok : ∀ k, k < 0 → parseFieldDescriptor (TJxb160c k).2.2.1 = some (tyJxb160c k) := by decide +kernel
def RJ6 : String := "java/lang/Integer"
def TJ6 : u_T := fun k => match k with
  | _ => ("", "", "", false)
def tyJ6 : Nat → FieldType := fun k => match k with
  | _ => .int
theorem nmJ6 : ∀ a, a < 0 → ∀ b, b < 0 → a ≠ b → (TJ6 a).2.1 ≠ (TJ6 b).2.1 := by decide +kernel
theorem tyJ6_ok : ∀ k, k < 0 → parseFieldDescriptor (TJ6 k).2.2.1 = some (tyJ6 k) := by decide +kernel
abbrev cJ6_getChars_ba4f3 : ByteArray := prog_26_method_12_code
def yJ6_getChars_ba4f3 : MethodName := ⟨RJ6, "getChars", "(II[B)I"⟩
abbrev cJ6_stringSize_0f7a4 : ByteArray := prog_26_method_13_code
def yJ6_stringSize_0f7a4 : MethodName := ⟨RJ6, "stringSize", "(I)I"⟩
abbrev cJ6_numberOfLeadingZeros_0f7a4 : ByteArray := prog_26_method_47_code
def yJ6_numberOfLeadingZeros_0f7a4 : MethodName := ⟨RJ6, "numberOfLeadingZeros", "(I)I"⟩
abbrev cJ6_numberOfTrailingZeros_0f7a4 : ByteArray := prog_26_method_48_code
def yJ6_numberOfTrailingZeros_0f7a4 : MethodName := ⟨RJ6, "numberOfTrailingZeros", "(I)I"⟩
def RJxab1ab : String := "java/lang/Iterable"
def TJxab1ab : u_T := fun k => match k with
  | _ => ("", "", "", false)
def tyJxab1ab : Nat → FieldType := fun k => match k with
  | _ => .int
theorem nmJxab1ab : ∀ a, a < 0 → ∀ b, b < 0 → a ≠ b → (TJxab1ab a).2.1 ≠ (TJxab1ab b).2.1 := by decide +kernel
theorem tyJxab1ab_ok : ∀ k, k < 0 → parseFieldDescriptor (TJxab1ab k).2.2.1 = some (tyJxab1ab k) := by decide +kernel
def RJ13 : String := "java/lang/Long"
def TJ13 : u_T := fun k => match k with
  | _ => ("", "", "", false)
def tyJ13 : Nat → FieldType := fun k => match k with
  | _ => .int
theorem nmJ13 : ∀ a, a < 0 → ∀ b, b < 0 → a ≠ b → (TJ13 a).2.1 ≠ (TJ13 b).2.1 := by decide +kernel
theorem tyJ13_ok : ∀ k, k < 0 → parseFieldDescriptor (TJ13 k).2.2.1 = some (tyJ13 k) := by decide +kernel
abbrev cJ13_numberOfLeadingZeros_95d88 : ByteArray := prog_28_method_48_code
def yJ13_numberOfLeadingZeros_95d88 : MethodName := ⟨RJ13, "numberOfLeadingZeros", "(J)I"⟩
abbrev cJ13_numberOfTrailingZeros_95d88 : ByteArray := prog_28_method_49_code
def yJ13_numberOfTrailingZeros_95d88 : MethodName := ⟨RJ13, "numberOfTrailingZeros", "(J)I"⟩
def RJ9 : String := "java/lang/Math"
def TJ9 : u_T := fun k => match k with
  | _ => ("", "", "", false)
def tyJ9 : Nat → FieldType := fun k => match k with
  | _ => .int
theorem nmJ9 : ∀ a, a < 0 → ∀ b, b < 0 → a ≠ b → (TJ9 a).2.1 ≠ (TJ9 b).2.1 := by decide +kernel
theorem tyJ9_ok : ∀ k, k < 0 → parseFieldDescriptor (TJ9 k).2.2.1 = some (tyJ9 k) := by decide +kernel
abbrev cJ9_abs_0f7a4 : ByteArray := prog_29_method_59_code
def yJ9_abs_0f7a4 : MethodName := ⟨RJ9, "abs", "(I)I"⟩
abbrev cJ9_max_7cf53 : ByteArray := prog_29_method_65_code
def yJ9_max_7cf53 : MethodName := ⟨RJ9, "max", "(II)I"⟩
abbrev cJ9_min_7cf53 : ByteArray := prog_29_method_69_code
def yJ9_min_7cf53 : MethodName := ⟨RJ9, "min", "(II)I"⟩
def RJxd2413 : String := "java/lang/Number"
def TJxd2413 : u_T := fun k => match k with
  | _ => ("", "", "", false)
def tyJxd2413 : Nat → FieldType := fun k => match k with
  | _ => .int
theorem nmJxd2413 : ∀ a, a < 0 → ∀ b, b < 0 → a ≠ b → (TJxd2413 a).2.1 ≠ (TJxd2413 b).2.1 := by decide +kernel
theorem tyJxd2413_ok : ∀ k, k < 0 → parseFieldDescriptor (TJxd2413 k).2.2.1 = some (tyJxd2413 k) := by decide +kernel
def RJ0 : String := "java/lang/String"
def TJ0 : u_T := fun k => match k with
  | 0 => ("java/lang/String", "value", "[B", true)
  | 1 => ("java/lang/String", "coder", "B", true)
  | 2 => ("java/lang/String", "hash", "I", false)
  | _ => ("java/lang/String", "hashIsZero", "Z", false)
def tyJ0 : Nat → FieldType := fun k => match k with
  | 0 => .array .byte
  | 1 => .byte
  | 2 => .int
  | _ => .boolean
theorem nmJ0 : ∀ a, a < 4 → ∀ b, b < 4 → a ≠ b → (TJ0 a).2.1 ≠ (TJ0 b).2.1 := by decide +kernel
theorem tyJ0_ok : ∀ k, k < 4 → parseFieldDescriptor (TJ0 k).2.2.1 = some (tyJ0 k) := by decide +kernel
abbrev cJ0_init_81219 : ByteArray := prog_32_method_53_code
def yJ0_init_81219 : MethodName := ⟨RJ0, "<init>", "(Ljava/lang/StringBuilder;)V"⟩
abbrev cJ0_length_8abf5 : ByteArray := prog_32_method_54_code
def yJ0_length_8abf5 : MethodName := ⟨RJ0, "length", "()I"⟩
abbrev cJ0_charAt_5068e : ByteArray := prog_32_method_56_code
def yJ0_charAt_5068e : MethodName := ⟨RJ0, "charAt", "(I)C"⟩
abbrev cJ0_substring_37a41 : ByteArray := prog_32_method_92_code
def yJ0_substring_37a41 : MethodName := ⟨RJ0, "substring", "(II)Ljava/lang/String;"⟩
abbrev cJ0_getBytes_840e7 : ByteArray := prog_32_method_147_code
def yJ0_getBytes_840e7 : MethodName := ⟨RJ0, "getBytes", "([BIB)V"⟩
abbrev cJ0_init_db425 : ByteArray := prog_32_method_150_code
def yJ0_init_db425 : MethodName := ⟨RJ0, "<init>", "(Ljava/lang/AbstractStringBuilder;Ljava/lang/Void;)V"⟩
abbrev cJ0_init_031fb : ByteArray := prog_32_method_151_code
def yJ0_init_031fb : MethodName := ⟨RJ0, "<init>", "([BB)V"⟩
abbrev cJ0_coder_7d493 : ByteArray := prog_32_method_152_code
def yJ0_coder_7d493 : MethodName := ⟨RJ0, "coder", "()B"⟩
abbrev cJ0_isLatin1_aae02 : ByteArray := prog_32_method_154_code
def yJ0_isLatin1_aae02 : MethodName := ⟨RJ0, "isLatin1", "()Z"⟩
abbrev cJ0_checkIndex_df160 : ByteArray := prog_32_method_155_code
def yJ0_checkIndex_df160 : MethodName := ⟨RJ0, "checkIndex", "(II)V"⟩
abbrev cJ0_checkBoundsOffCount_cabcc : ByteArray := prog_32_method_157_code
def yJ0_checkBoundsOffCount_cabcc : MethodName := ⟨RJ0, "checkBoundsOffCount", "(III)I"⟩
abbrev cJ0_checkBoundsBeginEnd_23922 : ByteArray := prog_32_method_158_code
def yJ0_checkBoundsBeginEnd_23922 : MethodName := ⟨RJ0, "checkBoundsBeginEnd", "(III)V"⟩
def RJ4 : String := "java/lang/StringBuilder"
def TJ4 : u_T := fun k => match k with
  | 0 => ("java/lang/AbstractStringBuilder", "value", "[B", false)
  | 1 => ("java/lang/AbstractStringBuilder", "coder", "B", false)
  | 2 => ("java/lang/AbstractStringBuilder", "maybeLatin1", "Z", false)
  | _ => ("java/lang/AbstractStringBuilder", "count", "I", false)
def tyJ4 : Nat → FieldType := fun k => match k with
  | 0 => .array .byte
  | 1 => .byte
  | 2 => .boolean
  | _ => .int
theorem nmJ4 : ∀ a, a < 4 → ∀ b, b < 4 → a ≠ b → (TJ4 a).2.1 ≠ (TJ4 b).2.1 := by decide +kernel
theorem tyJ4_ok : ∀ k, k < 4 → parseFieldDescriptor (TJ4 k).2.2.1 = some (tyJ4 k) := by decide +kernel
abbrev cJ4_init_da8c8 : ByteArray := prog_33_method_1_code
def yJ4_init_da8c8 : MethodName := ⟨RJ4, "<init>", "()V"⟩
abbrev cJ4_init_a7421 : ByteArray := prog_33_method_3_code
def yJ4_init_a7421 : MethodName := ⟨RJ4, "<init>", "(Ljava/lang/String;)V"⟩
abbrev cJ4_append_15ec4 : ByteArray := prog_33_method_7_code
def yJ4_append_15ec4 : MethodName := ⟨RJ4, "append", "(Ljava/lang/String;)Ljava/lang/StringBuilder;"⟩
abbrev cJ4_append_cf468 : ByteArray := prog_33_method_14_code
def yJ4_append_cf468 : MethodName := ⟨RJ4, "append", "(C)Ljava/lang/StringBuilder;"⟩
abbrev cJ4_append_bf812 : ByteArray := prog_33_method_15_code
def yJ4_append_bf812 : MethodName := ⟨RJ4, "append", "(I)Ljava/lang/StringBuilder;"⟩
abbrev cJ4_toString_0e30d : ByteArray := prog_33_method_42_code
def yJ4_toString_0e30d : MethodName := ⟨RJ4, "toString", "()Ljava/lang/String;"⟩
abbrev cJ4_append_cf1ce : ByteArray := prog_33_method_80_code
def yJ4_append_cf1ce : MethodName := ⟨RJ4, "append", "(Ljava/lang/String;)Ljava/lang/AbstractStringBuilder;"⟩
abbrev cJ4_charAt_5068e : ByteArray := prog_33_method_88_code
def yJ4_charAt_5068e : MethodName := ⟨RJ4, "charAt", "(I)C"⟩
abbrev cJ4_length_8abf5 : ByteArray := prog_33_method_93_code
def yJ4_length_8abf5 : MethodName := ⟨RJ4, "length", "()I"⟩
def RJ1 : String := "java/lang/StringLatin1"
def TJ1 : u_T := fun k => match k with
  | _ => ("", "", "", false)
def tyJ1 : Nat → FieldType := fun k => match k with
  | _ => .int
theorem nmJ1 : ∀ a, a < 0 → ∀ b, b < 0 → a ≠ b → (TJ1 a).2.1 ≠ (TJ1 b).2.1 := by decide +kernel
theorem tyJ1_ok : ∀ k, k < 0 → parseFieldDescriptor (TJ1 k).2.2.1 = some (tyJ1 k) := by decide +kernel
abbrev cJ1_charAt_3b067 : ByteArray := prog_34_method_2_code
def yJ1_charAt_3b067 : MethodName := ⟨RJ1, "charAt", "([BI)C"⟩
abbrev cJ1_canEncode_fc78d : ByteArray := prog_34_method_3_code
def yJ1_canEncode_fc78d : MethodName := ⟨RJ1, "canEncode", "(C)Z"⟩
abbrev cJ1_newString_b4f7a : ByteArray := prog_34_method_47_code
def yJ1_newString_b4f7a : MethodName := ⟨RJ1, "newString", "([BII)Ljava/lang/String;"⟩
abbrev cJ1_inflate_0e8fd : ByteArray := prog_34_method_50_code
def yJ1_inflate_0e8fd : MethodName := ⟨RJ1, "inflate", "([BI[BII)V"⟩
def RJ2 : String := "java/lang/StringUTF16"
def TJ2 : u_T := fun k => match k with
  | _ => ("", "", "", false)
def tyJ2 : Nat → FieldType := fun k => match k with
  | _ => .int
theorem nmJ2 : ∀ a, a < 0 → ∀ b, b < 0 → a ≠ b → (TJ2 a).2.1 ≠ (TJ2 b).2.1 := by decide +kernel
theorem tyJ2_ok : ∀ k, k < 0 → parseFieldDescriptor (TJ2 k).2.2.1 = some (tyJ2 k) := by decide +kernel
abbrev cJ2_newBytesFor_77867 : ByteArray := prog_35_method_2_code
def yJ2_newBytesFor_77867 : MethodName := ⟨RJ2, "newBytesFor", "(I)[B"⟩
abbrev cJ2_newBytesLength_0f7a4 : ByteArray := prog_35_method_3_code
def yJ2_newBytesLength_0f7a4 : MethodName := ⟨RJ2, "newBytesLength", "(I)I"⟩
abbrev cJ2_putChar_b72d1 : ByteArray := prog_35_method_4_code
def yJ2_putChar_b72d1 : MethodName := ⟨RJ2, "putChar", "([BII)V"⟩
abbrev cJ2_getChar_3b067 : ByteArray := prog_35_method_5_code
def yJ2_getChar_3b067 : MethodName := ⟨RJ2, "getChar", "([BI)C"⟩
abbrev cJ2_length_9d52b : ByteArray := prog_35_method_6_code
def yJ2_length_9d52b : MethodName := ⟨RJ2, "length", "([B)I"⟩
abbrev cJ2_coderFromArrayLen_85cad : ByteArray := prog_35_method_15_code
def yJ2_coderFromArrayLen_85cad : MethodName := ⟨RJ2, "coderFromArrayLen", "([BI)B"⟩
abbrev cJ2_compress_39247 : ByteArray := prog_35_method_17_code
def yJ2_compress_39247 : MethodName := ⟨RJ2, "compress", "([BII)[B"⟩
abbrev cJ2_compress_5af95 : ByteArray := prog_35_method_22_code
def yJ2_compress_5af95 : MethodName := ⟨RJ2, "compress", "([BI[BII)I"⟩
abbrev cJ2_newString_b4f7a : ByteArray := prog_35_method_69_code
def yJ2_newString_b4f7a : MethodName := ⟨RJ2, "newString", "([BII)Ljava/lang/String;"⟩
abbrev cJ2_putCharSB_b72d1 : ByteArray := prog_35_method_71_code
def yJ2_putCharSB_b72d1 : MethodName := ⟨RJ2, "putCharSB", "([BII)V"⟩
abbrev cJ2_getChars_46870 : ByteArray := prog_35_method_77_code
def yJ2_getChars_46870 : MethodName := ⟨RJ2, "getChars", "(III[B)I"⟩
abbrev cJ2_putCharsAt_cd4e5 : ByteArray := prog_35_method_81_code
def yJ2_putCharsAt_cd4e5 : MethodName := ⟨RJ2, "putCharsAt", "([BICCCC)I"⟩
abbrev cJ2_charAt_3b067 : ByteArray := prog_35_method_83_code
def yJ2_charAt_3b067 : MethodName := ⟨RJ2, "charAt", "([BI)C"⟩
abbrev cJ2_inflate_0e8fd : ByteArray := prog_35_method_86_code
def yJ2_inflate_0e8fd : MethodName := ⟨RJ2, "inflate", "([BI[BII)V"⟩
abbrev cJ2_getChars_ba4f3 : ByteArray := prog_35_method_89_code
def yJ2_getChars_ba4f3 : MethodName := ⟨RJ2, "getChars", "(II[B)I"⟩
abbrev cJ2_checkIndex_2214a : ByteArray := prog_35_method_91_code
def yJ2_checkIndex_2214a : MethodName := ⟨RJ2, "checkIndex", "(I[B)V"⟩
abbrev cJ2_checkBoundsBeginEnd_d044e : ByteArray := prog_35_method_93_code
def yJ2_checkBoundsBeginEnd_d044e : MethodName := ⟨RJ2, "checkBoundsBeginEnd", "(II[B)V"⟩
abbrev cJ2_checkBoundsOffCount_d044e : ByteArray := prog_35_method_94_code
def yJ2_checkBoundsOffCount_d044e : MethodName := ⟨RJ2, "checkBoundsOffCount", "(II[B)V"⟩
def RJ10 : String := "java/lang/System"
def TJ10 : u_T := fun k => match k with
  | _ => ("", "", "", false)
def tyJ10 : Nat → FieldType := fun k => match k with
  | _ => .int
theorem nmJ10 : ∀ a, a < 0 → ∀ b, b < 0 → a ≠ b → (TJ10 a).2.1 ≠ (TJ10 b).2.1 := by decide +kernel
theorem tyJ10_ok : ∀ k, k < 0 → parseFieldDescriptor (TJ10 k).2.2.1 = some (tyJ10 k) := by decide +kernel
def RJxfd54e : String := "java/lang/constant/Constable"
def TJxfd54e : u_T := fun k => match k with
  | _ => ("", "", "", false)
def tyJxfd54e : Nat → FieldType := fun k => match k with
  | _ => .int
theorem nmJxfd54e : ∀ a, a < 0 → ∀ b, b < 0 → a ≠ b → (TJxfd54e a).2.1 ≠ (TJxfd54e b).2.1 := by decide +kernel
theorem tyJxfd54e_ok : ∀ k, k < 0 → parseFieldDescriptor (TJxfd54e k).2.2.1 = some (tyJxfd54e k) := by decide +kernel
def RJx3cf43 : String := "java/lang/constant/ConstantDesc"
def TJx3cf43 : u_T := fun k => match k with
  | _ => ("", "", "", false)
def tyJx3cf43 : Nat → FieldType := fun k => match k with
  | _ => .int
theorem nmJx3cf43 : ∀ a, a < 0 → ∀ b, b < 0 → a ≠ b → (TJx3cf43 a).2.1 ≠ (TJx3cf43 b).2.1 := by decide +kernel
theorem tyJx3cf43_ok : ∀ k, k < 0 → parseFieldDescriptor (TJx3cf43 k).2.2.1 = some (tyJx3cf43 k) := by decide +kernel
def RJxa1e45 : String := "java/util/AbstractCollection"
def TJxa1e45 : u_T := fun k => match k with
  | _ => ("", "", "", false)
def tyJxa1e45 : Nat → FieldType := fun k => match k with
  | _ => .int
theorem nmJxa1e45 : ∀ a, a < 0 → ∀ b, b < 0 → a ≠ b → (TJxa1e45 a).2.1 ≠ (TJxa1e45 b).2.1 := by decide +kernel
theorem tyJxa1e45_ok : ∀ k, k < 0 → parseFieldDescriptor (TJxa1e45 k).2.2.1 = some (tyJxa1e45 k) := by decide +kernel
abbrev cJxa1e45_init_da8c8 : ByteArray := prog_40_method_1_code
def yJxa1e45_init_da8c8 : MethodName := ⟨RJxa1e45, "<init>", "()V"⟩
def RJxc12de : String := "java/util/AbstractList"
def TJxc12de : u_T := fun k => match k with
  | _ => ("", "", "", false)
def tyJxc12de : Nat → FieldType := fun k => match k with
  | _ => .int
theorem nmJxc12de : ∀ a, a < 0 → ∀ b, b < 0 → a ≠ b → (TJxc12de a).2.1 ≠ (TJxc12de b).2.1 := by decide +kernel
theorem tyJxc12de_ok : ∀ k, k < 0 → parseFieldDescriptor (TJxc12de k).2.2.1 = some (tyJxc12de k) := by decide +kernel
abbrev cJxc12de_init_da8c8 : ByteArray := prog_41_method_1_code
def yJxc12de_init_da8c8 : MethodName := ⟨RJxc12de, "<init>", "()V"⟩
def RJx4a65c : String := "java/util/ArrayList"
def TJx4a65c : u_T := fun k => match k with
  | 0 => ("java/util/AbstractList", "modCount", "I", false)
  | 1 => ("java/util/ArrayList", "elementData", "[Ljava/lang/Object;", false)
  | _ => ("java/util/ArrayList", "size", "I", false)
def tyJx4a65c : Nat → FieldType := fun k => match k with
  | 0 => .int
  | 1 => .array (.object "java/lang/Object")
  | _ => .int
theorem nmJx4a65c : ∀ a, a < 3 → ∀ b, b < 3 → a ≠ b → (TJx4a65c a).2.1 ≠ (TJx4a65c b).2.1 := by decide +kernel
theorem tyJx4a65c_ok : ∀ k, k < 3 → parseFieldDescriptor (TJx4a65c k).2.2.1 = some (tyJx4a65c k) := by decide +kernel
abbrev cJx4a65c_init_da8c8 : ByteArray := prog_42_method_2_code
def yJx4a65c_init_da8c8 : MethodName := ⟨RJx4a65c, "<init>", "()V"⟩
abbrev cJx4a65c_grow_92f84 : ByteArray := prog_42_method_6_code
def yJx4a65c_grow_92f84 : MethodName := ⟨RJx4a65c, "grow", "(I)[Ljava/lang/Object;"⟩
abbrev cJx4a65c_grow_d5877 : ByteArray := prog_42_method_7_code
def yJx4a65c_grow_d5877 : MethodName := ⟨RJx4a65c, "grow", "()[Ljava/lang/Object;"⟩
abbrev cJx4a65c_size_8abf5 : ByteArray := prog_42_method_8_code
def yJx4a65c_size_8abf5 : MethodName := ⟨RJx4a65c, "size", "()I"⟩
abbrev cJx4a65c_elementData_915e3 : ByteArray := prog_42_method_18_code
def yJx4a65c_elementData_915e3 : MethodName := ⟨RJx4a65c, "elementData", "(I)Ljava/lang/Object;"⟩
abbrev cJx4a65c_get_915e3 : ByteArray := prog_42_method_20_code
def yJx4a65c_get_915e3 : MethodName := ⟨RJx4a65c, "get", "(I)Ljava/lang/Object;"⟩
abbrev cJx4a65c_add_72be8 : ByteArray := prog_42_method_24_code
def yJx4a65c_add_72be8 : MethodName := ⟨RJx4a65c, "add", "(Ljava/lang/Object;[Ljava/lang/Object;I)V"⟩
abbrev cJx4a65c_add_9ea2d : ByteArray := prog_42_method_25_code
def yJx4a65c_add_9ea2d : MethodName := ⟨RJx4a65c, "add", "(Ljava/lang/Object;)Z"⟩
def RJ7 : String := "java/util/Arrays"
def TJ7 : u_T := fun k => match k with
  | _ => ("", "", "", false)
def tyJ7 : Nat → FieldType := fun k => match k with
  | _ => .int
theorem nmJ7 : ∀ a, a < 0 → ∀ b, b < 0 → a ≠ b → (TJ7 a).2.1 ≠ (TJ7 b).2.1 := by decide +kernel
theorem tyJ7_ok : ∀ k, k < 0 → parseFieldDescriptor (TJ7 k).2.2.1 = some (tyJ7 k) := by decide +kernel
abbrev cJ7_equals_331f6 : ByteArray := prog_43_method_81_code
def yJ7_equals_331f6 : MethodName := ⟨RJ7, "equals", "([J[J)Z"⟩
abbrev cJ7_fill_d0a16 : ByteArray := prog_43_method_101_code
def yJ7_fill_d0a16 : MethodName := ⟨RJ7, "fill", "([JJ)V"⟩
abbrev cJ7_copyOf_1904c : ByteArray := prog_43_method_119_code
def yJ7_copyOf_1904c : MethodName := ⟨RJ7, "copyOf", "([Ljava/lang/Object;I)[Ljava/lang/Object;"⟩
abbrev cJ7_copyOf_6403c : ByteArray := prog_43_method_120_code
def yJ7_copyOf_6403c : MethodName := ⟨RJ7, "copyOf", "([Ljava/lang/Object;ILjava/lang/Class;)[Ljava/lang/Object;"⟩
abbrev cJ7_copyOf_9075b : ByteArray := prog_43_method_121_code
def yJ7_copyOf_9075b : MethodName := ⟨RJ7, "copyOf", "([BI)[B"⟩
abbrev cJ7_copyOf_59c91 : ByteArray := prog_43_method_123_code
def yJ7_copyOf_59c91 : MethodName := ⟨RJ7, "copyOf", "([II)[I"⟩
abbrev cJ7_checkLength_df160 : ByteArray := prog_43_method_131_code
def yJ7_checkLength_df160 : MethodName := ⟨RJ7, "checkLength", "(II)V"⟩
abbrev cJ7_copyOfRange_39247 : ByteArray := prog_43_method_132_code
def yJ7_copyOfRange_39247 : MethodName := ⟨RJ7, "copyOfRange", "([BII)[B"⟩
abbrev cJ7_copyOfRangeByte_39247 : ByteArray := prog_43_method_133_code
def yJ7_copyOfRangeByte_39247 : MethodName := ⟨RJ7, "copyOfRangeByte", "([BII)[B"⟩
def RJx5ef63 : String := "java/util/Collection"
def TJx5ef63 : u_T := fun k => match k with
  | _ => ("", "", "", false)
def tyJx5ef63 : Nat → FieldType := fun k => match k with
  | _ => .int
theorem nmJx5ef63 : ∀ a, a < 0 → ∀ b, b < 0 → a ≠ b → (TJx5ef63 a).2.1 ≠ (TJx5ef63 b).2.1 := by decide +kernel
theorem tyJx5ef63_ok : ∀ k, k < 0 → parseFieldDescriptor (TJx5ef63 k).2.2.1 = some (tyJx5ef63 k) := by decide +kernel
def RJxbd725 : String := "java/util/List"
def TJxbd725 : u_T := fun k => match k with
  | _ => ("", "", "", false)
def tyJxbd725 : Nat → FieldType := fun k => match k with
  | _ => .int
theorem nmJxbd725 : ∀ a, a < 0 → ∀ b, b < 0 → a ≠ b → (TJxbd725 a).2.1 ≠ (TJxbd725 b).2.1 := by decide +kernel
theorem tyJxbd725_ok : ∀ k, k < 0 → parseFieldDescriptor (TJxbd725 k).2.2.1 = some (tyJxbd725 k) := by decide +kernel
def RJ15 : String := "java/util/Objects"
def TJ15 : u_T := fun k => match k with
  | _ => ("", "", "", false)
def tyJ15 : Nat → FieldType := fun k => match k with
  | _ => .int
theorem nmJ15 : ∀ a, a < 0 → ∀ b, b < 0 → a ≠ b → (TJ15 a).2.1 ≠ (TJ15 b).2.1 := by decide +kernel
theorem tyJ15_ok : ∀ k, k < 0 → parseFieldDescriptor (TJ15 k).2.2.1 = some (tyJ15 k) := by decide +kernel
abbrev cJ15_checkIndex_7cf53 : ByteArray := prog_46_method_17_code
def yJ15_checkIndex_7cf53 : MethodName := ⟨RJ15, "checkIndex", "(II)I"⟩
def RJxf0a74 : String := "java/util/RandomAccess"
def TJxf0a74 : u_T := fun k => match k with
  | _ => ("", "", "", false)
def tyJxf0a74 : Nat → FieldType := fun k => match k with
  | _ => .int
theorem nmJxf0a74 : ∀ a, a < 0 → ∀ b, b < 0 → a ≠ b → (TJxf0a74 a).2.1 ≠ (TJxf0a74 b).2.1 := by decide +kernel
theorem tyJxf0a74_ok : ∀ k, k < 0 → parseFieldDescriptor (TJxf0a74 k).2.2.1 = some (tyJxf0a74 k) := by decide +kernel
def RJxa66e6 : String := "java/util/SequencedCollection"
def TJxa66e6 : u_T := fun k => match k with
  | _ => ("", "", "", false)
def tyJxa66e6 : Nat → FieldType := fun k => match k with
  | _ => .int
theorem nmJxa66e6 : ∀ a, a < 0 → ∀ b, b < 0 → a ≠ b → (TJxa66e6 a).2.1 ≠ (TJxa66e6 b).2.1 := by decide +kernel
theorem tyJxa66e6_ok : ∀ k, k < 0 → parseFieldDescriptor (TJxa66e6 k).2.2.1 = some (tyJxa66e6 k) := by decide +kernel
def RJx9a822 : String := "jdk/internal/misc/Unsafe"
def TJx9a822 : u_T := fun k => match k with
  | _ => ("", "", "", false)
def tyJx9a822 : Nat → FieldType := fun k => match k with
  | _ => .int
theorem nmJx9a822 : ∀ a, a < 0 → ∀ b, b < 0 → a ≠ b → (TJx9a822 a).2.1 ≠ (TJx9a822 b).2.1 := by decide +kernel
theorem tyJx9a822_ok : ∀ k, k < 0 → parseFieldDescriptor (TJx9a822 k).2.2.1 = some (tyJx9a822 k) := by decide +kernel
abbrev cJx9a822_getLongUnaligned_f02c6 : ByteArray := prog_49_method_334_code
def yJx9a822_getLongUnaligned_f02c6 : MethodName := ⟨RJx9a822, "getLongUnaligned", "(Ljava/lang/Object;J)J"⟩
abbrev cJx9a822_getIntUnaligned_25a47 : ByteArray := prog_49_method_336_code
def yJx9a822_getIntUnaligned_25a47 : MethodName := ⟨RJx9a822, "getIntUnaligned", "(Ljava/lang/Object;J)I"⟩
abbrev cJx9a822_pickPos_7cf53 : ByteArray := prog_49_method_350_code
def yJx9a822_pickPos_7cf53 : MethodName := ⟨RJx9a822, "pickPos", "(II)I"⟩
abbrev cJx9a822_makeLong_0477f : ByteArray := prog_49_method_351_code
def yJx9a822_makeLong_0477f : MethodName := ⟨RJx9a822, "makeLong", "(BBBBBBBB)J"⟩
abbrev cJx9a822_makeLong_4b46d : ByteArray := prog_49_method_352_code
def yJx9a822_makeLong_4b46d : MethodName := ⟨RJx9a822, "makeLong", "(SSSS)J"⟩
abbrev cJx9a822_makeLong_a216e : ByteArray := prog_49_method_353_code
def yJx9a822_makeLong_a216e : MethodName := ⟨RJx9a822, "makeLong", "(II)J"⟩
abbrev cJx9a822_makeInt_4e28c : ByteArray := prog_49_method_354_code
def yJx9a822_makeInt_4e28c : MethodName := ⟨RJx9a822, "makeInt", "(SS)I"⟩
abbrev cJx9a822_makeInt_86272 : ByteArray := prog_49_method_355_code
def yJx9a822_makeInt_86272 : MethodName := ⟨RJx9a822, "makeInt", "(BBBB)I"⟩
abbrev cJx9a822_toUnsignedInt_4d018 : ByteArray := prog_49_method_366_code
def yJx9a822_toUnsignedInt_4d018 : MethodName := ⟨RJx9a822, "toUnsignedInt", "(B)I"⟩
abbrev cJx9a822_toUnsignedInt_f1ed4 : ByteArray := prog_49_method_367_code
def yJx9a822_toUnsignedInt_f1ed4 : MethodName := ⟨RJx9a822, "toUnsignedInt", "(S)I"⟩
abbrev cJx9a822_toUnsignedLong_c5be9 : ByteArray := prog_49_method_368_code
def yJx9a822_toUnsignedLong_c5be9 : MethodName := ⟨RJx9a822, "toUnsignedLong", "(B)J"⟩
abbrev cJx9a822_toUnsignedLong_51cfc : ByteArray := prog_49_method_369_code
def yJx9a822_toUnsignedLong_51cfc : MethodName := ⟨RJx9a822, "toUnsignedLong", "(S)J"⟩
abbrev cJx9a822_toUnsignedLong_3e8ac : ByteArray := prog_49_method_370_code
def yJx9a822_toUnsignedLong_3e8ac : MethodName := ⟨RJx9a822, "toUnsignedLong", "(I)J"⟩
def RJxf92f9 : String := "jdk/internal/misc/UnsafeConstants"
def TJxf92f9 : u_T := fun k => match k with
  | _ => ("", "", "", false)
def tyJxf92f9 : Nat → FieldType := fun k => match k with
  | _ => .int
theorem nmJxf92f9 : ∀ a, a < 0 → ∀ b, b < 0 → a ≠ b → (TJxf92f9 a).2.1 ≠ (TJxf92f9 b).2.1 := by decide +kernel
theorem tyJxf92f9_ok : ∀ k, k < 0 → parseFieldDescriptor (TJxf92f9 k).2.2.1 = some (tyJxf92f9 k) := by decide +kernel
def RJ8 : String := "jdk/internal/util/ArraysSupport"
def TJ8 : u_T := fun k => match k with
  | _ => ("", "", "", false)
def tyJ8 : Nat → FieldType := fun k => match k with
  | _ => .int
theorem nmJ8 : ∀ a, a < 0 → ∀ b, b < 0 → a ≠ b → (TJ8 a).2.1 ≠ (TJ8 b).2.1 := by decide +kernel
theorem tyJ8_ok : ∀ k, k < 0 → parseFieldDescriptor (TJ8 k).2.2.1 = some (tyJ8 k) := by decide +kernel
abbrev cJ8_vectorizedMismatch_456ae : ByteArray := prog_51_method_3_code
def yJ8_vectorizedMismatch_456ae : MethodName := ⟨RJ8, "vectorizedMismatch", "(Ljava/lang/Object;JLjava/lang/Object;JII)I"⟩
abbrev cJ8_mismatch_974f6 : ByteArray := prog_51_method_23_code
def yJ8_mismatch_974f6 : MethodName := ⟨RJ8, "mismatch", "([J[JI)I"⟩
abbrev cJ8_newLength_cabcc : ByteArray := prog_51_method_27_code
def yJ8_newLength_cabcc : MethodName := ⟨RJ8, "newLength", "(III)I"⟩
abbrev cJ8_hugeLength_7cf53 : ByteArray := prog_51_method_28_code
def yJ8_hugeLength_7cf53 : MethodName := ⟨RJ8, "hugeLength", "(II)I"⟩
def RJ3 : String := "jdk/internal/util/Preconditions"
def TJ3 : u_T := fun k => match k with
  | _ => ("", "", "", false)
def tyJ3 : Nat → FieldType := fun k => match k with
  | _ => .int
theorem nmJ3 : ∀ a, a < 0 → ∀ b, b < 0 → a ≠ b → (TJ3 a).2.1 ≠ (TJ3 b).2.1 := by decide +kernel
theorem tyJ3_ok : ∀ k, k < 0 → parseFieldDescriptor (TJ3 k).2.2.1 = some (tyJ3 k) := by decide +kernel
abbrev cJ3_checkIndex_8e157 : ByteArray := prog_52_method_11_code
def yJ3_checkIndex_8e157 : MethodName := ⟨RJ3, "checkIndex", "(IILjava/util/function/BiFunction;)I"⟩
abbrev cJ3_checkFromToIndex_8c36e : ByteArray := prog_52_method_12_code
def yJ3_checkFromToIndex_8c36e : MethodName := ⟨RJ3, "checkFromToIndex", "(IIILjava/util/function/BiFunction;)I"⟩
abbrev cJ3_checkFromIndexSize_8c36e : ByteArray := prog_52_method_13_code
def yJ3_checkFromIndexSize_8c36e : MethodName := ⟨RJ3, "checkFromIndexSize", "(IIILjava/util/function/BiFunction;)I"⟩
def RL : String := "NotaryBookLaw"
abbrev cL_put : ByteArray := method_2_code
def yL_put : MethodName := ⟨RL, "put", "(LNotaryBook;[II)V"⟩
abbrev cL_flush : ByteArray := method_3_code
def yL_flush : MethodName := ⟨RL, "flush", "(LNotaryBook;[I)V"⟩
abbrev cL_said : ByteArray := method_5_code
def yL_said : MethodName := ⟨RL, "said", "(LNotaryBook;[I)I"⟩
abbrev cL_cell : ByteArray := method_7_code
def yL_cell : MethodName := ⟨RL, "cell", "([II)I"⟩
abbrev cL_told : ByteArray := method_8_code
def yL_told : MethodName := ⟨RL, "told", "(LNotaryBook;[ILjava/lang/CharSequence;)I"⟩
abbrev cL_text : ByteArray := method_9_code
def yL_text : MethodName := ⟨RL, "text", "(LNotaryBookLaw$Desk;[I)Ljava/lang/String;"⟩
abbrev cL_law : ByteArray := code
def yL_law : MethodName := ⟨RL, "law", "([I)Z"⟩
abbrev cL_areKnown : ByteArray := method_12_code
def yL_areKnown : MethodName := ⟨RL, "areKnown", "(LNotaryBook;)Z"⟩
abbrev cL_sees : ByteArray := method_13_code
def yL_sees : MethodName := ⟨RL, "sees", "(LNotaryBook;[J)V"⟩
