/-! ===== BEGIN printed: names, fields, word lists, decode rows ===== -/
def RX0 : String := "LabelPlacer$Command"
def TX0 : u_T := fun k => match k with
  | 0 => ("LabelPlacer$Command", "kind", "I", false)
  | 1 => ("LabelPlacer$Command", "numbers", "[I", true)
  | _ => ("LabelPlacer$Command", "next", "I", false)
def tyX0 : Nat → FieldType := fun k => match k with
  | 0 => .int
  | 1 => .array .int
  | _ => .int
abbrev wsX00 : List Cond := u_ws RX0 TX0 3
theorem nmX0 : ∀ a, a < 3 → ∀ b, b < 3 → a ≠ b → (TX0 a).2.1 ≠ (TX0 b).2.1 := by decide +kernel
theorem tyX0_ok : ∀ k, k < 3 → parseFieldDescriptor (TX0 k).2.2.1 = some (tyX0 k) := by decide +kernel
abbrev cX0_init : ByteArray := prog_2_method_1_code
def yX0_init : MethodName := ⟨RX0, "<init>", "()V"⟩
abbrev cX0_read : ByteArray := prog_2_method_2_code
def yX0_read : MethodName := ⟨RX0, "read", "(LLabelPlacer$Text;)I"⟩
abbrev cX0_kindOf : ByteArray := prog_2_method_3_code
def yX0_kindOf : MethodName := ⟨RX0, "kindOf", "(LLabelPlacer$Text;II)I"⟩
abbrev cX0_skipBlanks : ByteArray := prog_2_method_4_code
def yX0_skipBlanks : MethodName := ⟨RX0, "skipBlanks", "(LLabelPlacer$Text;)V"⟩
abbrev cX0_readNumber : ByteArray := prog_2_method_5_code
def yX0_readNumber : MethodName := ⟨RX0, "readNumber", "(LLabelPlacer$Text;I)Z"⟩
def RX1 : String := "LabelPlacer$Labels"
def TX1 : u_T := fun k => match k with
  | 0 => ("LabelPlacer$Labels", "points", "LLabelPlacer$Points;", true)
  | 1 => ("LabelPlacer$Labels", "places", "LLabelPlacer$Places;", true)
  | _ => ("LabelPlacer$Labels", "shown", "[I", true)
def tyX1 : Nat → FieldType := fun k => match k with
  | 0 => .object "LabelPlacer$Points"
  | 1 => .object "LabelPlacer$Places"
  | _ => .array .int
abbrev wsX10 : List Cond := u_ws RX1 TX1 3
theorem nmX1 : ∀ a, a < 3 → ∀ b, b < 3 → a ≠ b → (TX1 a).2.1 ≠ (TX1 b).2.1 := by decide +kernel
theorem tyX1_ok : ∀ k, k < 3 → parseFieldDescriptor (TX1 k).2.2.1 = some (tyX1 k) := by decide +kernel
abbrev cX1_init : ByteArray := prog_3_method_1_code
def yX1_init : MethodName := ⟨RX1, "<init>", "(LLabelPlacer$Points;LLabelPlacer$Places;)V"⟩
abbrev cX1_sideOf : ByteArray := prog_3_method_2_code
def yX1_sideOf : MethodName := ⟨RX1, "sideOf", "(I)I"⟩
abbrev cX1_put : ByteArray := prog_3_method_3_code
def yX1_put : MethodName := ⟨RX1, "put", "(II)V"⟩
abbrev cX1_hide : ByteArray := prog_3_method_4_code
def yX1_hide : MethodName := ⟨RX1, "hide", "(I)V"⟩
abbrev cX1_isShown : ByteArray := prog_3_method_5_code
def yX1_isShown : MethodName := ⟨RX1, "isShown", "(I)Z"⟩
abbrev cX1_closeGap : ByteArray := prog_3_method_6_code
def yX1_closeGap : MethodName := ⟨RX1, "closeGap", "(I)V"⟩
abbrev cX1_dropLost : ByteArray := prog_3_method_7_code
def yX1_dropLost : MethodName := ⟨RX1, "dropLost", "()I"⟩
abbrev cX1_hideIfClashing : ByteArray := prog_3_method_8_code
def yX1_hideIfClashing : MethodName := ⟨RX1, "hideIfClashing", "(I)V"⟩
abbrev cX1_hideEach : ByteArray := prog_3_method_9_code
def yX1_hideEach : MethodName := ⟨RX1, "hideEach", "()I"⟩
abbrev cX1_manyShown : ByteArray := prog_3_method_10_code
def yX1_manyShown : MethodName := ⟨RX1, "manyShown", "()I"⟩
abbrev cX1_sumShown : ByteArray := prog_3_method_11_code
def yX1_sumShown : MethodName := ⟨RX1, "sumShown", "()I"⟩
abbrev cX1_ownerOf : ByteArray := prog_3_method_12_code
def yX1_ownerOf : MethodName := ⟨RX1, "ownerOf", "(II)I"⟩
abbrev cX1_lacksLabel : ByteArray := prog_3_method_13_code
def yX1_lacksLabel : MethodName := ⟨RX1, "lacksLabel", "(I)Z"⟩
abbrev cX1_clashing : ByteArray := prog_3_method_14_code
def yX1_clashing : MethodName := ⟨RX1, "clashing", "(II)I"⟩
abbrev cX1_isFree : ByteArray := prog_3_method_15_code
def yX1_isFree : MethodName := ⟨RX1, "isFree", "(II)Z"⟩
abbrev cX1_addFree : ByteArray := prog_3_method_16_code
def yX1_addFree : MethodName := ⟨RX1, "addFree", "()I"⟩
abbrev cX1_showOnLeastFree : ByteArray := prog_3_method_17_code
def yX1_showOnLeastFree : MethodName := ⟨RX1, "showOnLeastFree", "(I)Z"⟩
abbrev cX1_makeRoom : ByteArray := prog_3_method_18_code
def yX1_makeRoom : MethodName := ⟨RX1, "makeRoom", "()I"⟩
abbrev cX1_showByMoving : ByteArray := prog_3_method_19_code
def yX1_showByMoving : MethodName := ⟨RX1, "showByMoving", "(I)Z"⟩
abbrev cX1_firstClashing : ByteArray := prog_3_method_20_code
def yX1_firstClashing : MethodName := ⟨RX1, "firstClashing", "(II)I"⟩
abbrev cX1_moveAside : ByteArray := prog_3_method_21_code
def yX1_moveAside : MethodName := ⟨RX1, "moveAside", "(III)Z"⟩
abbrev cX1_pushAway : ByteArray := prog_3_method_22_code
def yX1_pushAway : MethodName := ⟨RX1, "pushAway", "()I"⟩
abbrev cX1_pushFirst : ByteArray := prog_3_method_23_code
def yX1_pushFirst : MethodName := ⟨RX1, "pushFirst", "()Z"⟩
abbrev cX1_sideToPush : ByteArray := prog_3_method_24_code
def yX1_sideToPush : MethodName := ⟨RX1, "sideToPush", "(I)I"⟩
abbrev cX1_outranksClashing : ByteArray := prog_3_method_25_code
def yX1_outranksClashing : MethodName := ⟨RX1, "outranksClashing", "(II)Z"⟩
abbrev cX1_hideClashing : ByteArray := prog_3_method_26_code
def yX1_hideClashing : MethodName := ⟨RX1, "hideClashing", "(II)V"⟩
abbrev cX1_manyThatCanPush : ByteArray := prog_3_method_27_code
def yX1_manyThatCanPush : MethodName := ⟨RX1, "manyThatCanPush", "()I"⟩
def RX2 : String := "LabelPlacer$Lines"
def TX2 : u_T := fun k => match k with
  | 0 => ("LabelPlacer$Lines", "many", "I", false)
  | 1 => ("LabelPlacer$Lines", "points", "LLabelPlacer$Points;", true)
  | 2 => ("LabelPlacer$Lines", "window", "LLabelPlacer$Window;", true)
  | 3 => ("LabelPlacer$Lines", "labels", "LLabelPlacer$Labels;", true)
  | 4 => ("LabelPlacer$Lines", "kept", "[I", true)
  | _ => ("LabelPlacer$Lines", "waiting", "[I", true)
def tyX2 : Nat → FieldType := fun k => match k with
  | 0 => .int
  | 1 => .object "LabelPlacer$Points"
  | 2 => .object "LabelPlacer$Window"
  | 3 => .object "LabelPlacer$Labels"
  | 4 => .array .int
  | _ => .array .int
abbrev wsX20 : List Cond := u_ws RX2 TX2 6
theorem nmX2 : ∀ a, a < 6 → ∀ b, b < 6 → a ≠ b → (TX2 a).2.1 ≠ (TX2 b).2.1 := by decide +kernel
theorem tyX2_ok : ∀ k, k < 6 → parseFieldDescriptor (TX2 k).2.2.1 = some (tyX2 k) := by decide +kernel
abbrev cX2_init : ByteArray := prog_4_method_1_code
def yX2_init : MethodName := ⟨RX2, "<init>", "(LLabelPlacer$Points;LLabelPlacer$Window;LLabelPlacer$Labels;)V"⟩
abbrev cX2_get : ByteArray := prog_4_method_2_code
def yX2_get : MethodName := ⟨RX2, "get", "(II)I"⟩
abbrev cX2_lay : ByteArray := prog_4_method_3_code
def yX2_lay : MethodName := ⟨RX2, "lay", "()I"⟩
abbrev cX2_slotRow : ByteArray := prog_4_method_4_code
def yX2_slotRow : MethodName := ⟨RX2, "slotRow", "(I)I"⟩
abbrev cX2_gatherWaiting : ByteArray := prog_4_method_5_code
def yX2_gatherWaiting : MethodName := ⟨RX2, "gatherWaiting", "()I"⟩
abbrev cX2_comesBefore : ByteArray := prog_4_method_6_code
def yX2_comesBefore : MethodName := ⟨RX2, "comesBefore", "(II)Z"⟩
abbrev cX2_keep : ByteArray := prog_4_method_7_code
def yX2_keep : MethodName := ⟨RX2, "keep", "(I)V"⟩
def RX3 : String := "LabelPlacer$Places"
def TX3 : u_T := fun k => match k with
  | 0 => ("LabelPlacer$Places", "points", "LLabelPlacer$Points;", true)
  | 1 => ("LabelPlacer$Places", "window", "LLabelPlacer$Window;", true)
  | 2 => ("LabelPlacer$Places", "left", "[I", true)
  | 3 => ("LabelPlacer$Places", "bottom", "[I", true)
  | 4 => ("LabelPlacer$Places", "right", "[I", true)
  | 5 => ("LabelPlacer$Places", "top", "[I", true)
  | _ => ("LabelPlacer$Places", "good", "[Z", true)
def tyX3 : Nat → FieldType := fun k => match k with
  | 0 => .object "LabelPlacer$Points"
  | 1 => .object "LabelPlacer$Window"
  | 2 => .array .int
  | 3 => .array .int
  | 4 => .array .int
  | 5 => .array .int
  | _ => .array .boolean
abbrev wsX30 : List Cond := u_ws RX3 TX3 7
theorem nmX3 : ∀ a, a < 7 → ∀ b, b < 7 → a ≠ b → (TX3 a).2.1 ≠ (TX3 b).2.1 := by decide +kernel
theorem tyX3_ok : ∀ k, k < 7 → parseFieldDescriptor (TX3 k).2.2.1 = some (tyX3 k) := by decide +kernel
abbrev cX3_init : ByteArray := prog_5_method_1_code
def yX3_init : MethodName := ⟨RX3, "<init>", "(LLabelPlacer$Points;LLabelPlacer$Window;)V"⟩
abbrev cX3_findAll : ByteArray := prog_5_method_2_code
def yX3_findAll : MethodName := ⟨RX3, "findAll", "()V"⟩
abbrev cX3_findLeft : ByteArray := prog_5_method_3_code
def yX3_findLeft : MethodName := ⟨RX3, "findLeft", "(II)I"⟩
abbrev cX3_findBottom : ByteArray := prog_5_method_4_code
def yX3_findBottom : MethodName := ⟨RX3, "findBottom", "(II)I"⟩
abbrev cX3_isGood : ByteArray := prog_5_method_5_code
def yX3_isGood : MethodName := ⟨RX3, "isGood", "(II)Z"⟩
abbrev cX3_isVisible : ByteArray := prog_5_method_6_code
def yX3_isVisible : MethodName := ⟨RX3, "isVisible", "(I)Z"⟩
abbrev cX3_visiblePoints : ByteArray := prog_5_method_7_code
def yX3_visiblePoints : MethodName := ⟨RX3, "visiblePoints", "()I"⟩
abbrev cX3_isPlace : ByteArray := prog_5_method_8_code
def yX3_isPlace : MethodName := ⟨RX3, "isPlace", "(II)Z"⟩
abbrev cX3_leftOf : ByteArray := prog_5_method_9_code
def yX3_leftOf : MethodName := ⟨RX3, "leftOf", "(II)I"⟩
abbrev cX3_bottomOf : ByteArray := prog_5_method_10_code
def yX3_bottomOf : MethodName := ⟨RX3, "bottomOf", "(II)I"⟩
abbrev cX3_covers : ByteArray := prog_5_method_11_code
def yX3_covers : MethodName := ⟨RX3, "covers", "(IIII)Z"⟩
abbrev cX3_manyOf : ByteArray := prog_5_method_12_code
def yX3_manyOf : MethodName := ⟨RX3, "manyOf", "(I)I"⟩
abbrev cX3_manyOfAll : ByteArray := prog_5_method_13_code
def yX3_manyOfAll : MethodName := ⟨RX3, "manyOfAll", "()I"⟩
abbrev cX3_doClash : ByteArray := prog_5_method_14_code
def yX3_doClash : MethodName := ⟨RX3, "doClash", "(IIII)Z"⟩
abbrev cX3_clashesOf : ByteArray := prog_5_method_15_code
def yX3_clashesOf : MethodName := ⟨RX3, "clashesOf", "(II)I"⟩
abbrev cX3_clashesBefore : ByteArray := prog_5_method_16_code
def yX3_clashesBefore : MethodName := ⟨RX3, "clashesBefore", "(III)I"⟩
abbrev cX3_clashingPairs : ByteArray := prog_5_method_17_code
def yX3_clashingPairs : MethodName := ⟨RX3, "clashingPairs", "()I"⟩
def RX4 : String := "LabelPlacer$Points"
def TX4 : u_T := fun k => match k with
  | 0 => ("LabelPlacer$Points", "many", "I", false)
  | 1 => ("LabelPlacer$Points", "values", "[I", true)
  | _ => ("LabelPlacer$Points", "order", "[I", true)
def tyX4 : Nat → FieldType := fun k => match k with
  | 0 => .int
  | 1 => .array .int
  | _ => .array .int
abbrev wsX40 : List Cond := u_ws RX4 TX4 3
theorem nmX4 : ∀ a, a < 3 → ∀ b, b < 3 → a ≠ b → (TX4 a).2.1 ≠ (TX4 b).2.1 := by decide +kernel
theorem tyX4_ok : ∀ k, k < 3 → parseFieldDescriptor (TX4 k).2.2.1 = some (tyX4 k) := by decide +kernel
abbrev cX4_init : ByteArray := prog_6_method_1_code
def yX4_init : MethodName := ⟨RX4, "<init>", "()V"⟩
abbrev cX4_allows : ByteArray := prog_6_method_2_code
def yX4_allows : MethodName := ⟨RX4, "allows", "(II)Z"⟩
abbrev cX4_has : ByteArray := prog_6_method_3_code
def yX4_has : MethodName := ⟨RX4, "has", "(I)Z"⟩
abbrev cX4_get : ByteArray := prog_6_method_4_code
def yX4_get : MethodName := ⟨RX4, "get", "(II)I"⟩
abbrev cX4_put : ByteArray := prog_6_method_5_code
def yX4_put : MethodName := ⟨RX4, "put", "(III)V"⟩
abbrev cX4_append : ByteArray := prog_6_method_6_code
def yX4_append : MethodName := ⟨RX4, "append", "(II)I"⟩
abbrev cX4_closeGap : ByteArray := prog_6_method_7_code
def yX4_closeGap : MethodName := ⟨RX4, "closeGap", "(I)V"⟩
abbrev cX4_isAt : ByteArray := prog_6_method_8_code
def yX4_isAt : MethodName := ⟨RX4, "isAt", "(II)Z"⟩
abbrev cX4_isIn : ByteArray := prog_6_method_9_code
def yX4_isIn : MethodName := ⟨RX4, "isIn", "(IIII)Z"⟩
abbrev cX4_putInOrder : ByteArray := prog_6_method_10_code
def yX4_putInOrder : MethodName := ⟨RX4, "putInOrder", "()V"⟩
abbrev cX4_inOrder : ByteArray := prog_6_method_11_code
def yX4_inOrder : MethodName := ⟨RX4, "inOrder", "(I)I"⟩
def RX5 : String := "LabelPlacer$Search"
def TX5 : u_T := fun k => match k with
  | 0 => ("LabelPlacer$Search", "points", "LLabelPlacer$Points;", true)
  | 1 => ("LabelPlacer$Search", "places", "LLabelPlacer$Places;", true)
  | 2 => ("LabelPlacer$Search", "candidates", "[I", true)
  | 3 => ("LabelPlacer$Search", "clashMasks", "[J", true)
  | _ => ("LabelPlacer$Search", "many", "I", false)
def tyX5 : Nat → FieldType := fun k => match k with
  | 0 => .object "LabelPlacer$Points"
  | 1 => .object "LabelPlacer$Places"
  | 2 => .array .int
  | 3 => .array .long
  | _ => .int
abbrev wsX50 : List Cond := u_ws RX5 TX5 5
theorem nmX5 : ∀ a, a < 5 → ∀ b, b < 5 → a ≠ b → (TX5 a).2.1 ≠ (TX5 b).2.1 := by decide +kernel
theorem tyX5_ok : ∀ k, k < 5 → parseFieldDescriptor (TX5 k).2.2.1 = some (tyX5 k) := by decide +kernel
abbrev cX5_init : ByteArray := prog_7_method_1_code
def yX5_init : MethodName := ⟨RX5, "<init>", "(LLabelPlacer$Points;LLabelPlacer$Places;)V"⟩
abbrev cX5_greatestSum : ByteArray := prog_7_method_2_code
def yX5_greatestSum : MethodName := ⟨RX5, "greatestSum", "()I"⟩
abbrev cX5_gatherCandidates : ByteArray := prog_7_method_3_code
def yX5_gatherCandidates : MethodName := ⟨RX5, "gatherCandidates", "()Z"⟩
abbrev cX5_maskOfClashes : ByteArray := prog_7_method_4_code
def yX5_maskOfClashes : MethodName := ⟨RX5, "maskOfClashes", "(II)J"⟩
abbrev cX5_bestFrom : ByteArray := prog_7_method_5_code
def yX5_bestFrom : MethodName := ⟨RX5, "bestFrom", "(LLabelPlacer$Search;IJII)I"⟩
abbrev cX5_sumInReach : ByteArray := prog_7_method_6_code
def yX5_sumInReach : MethodName := ⟨RX5, "sumInReach", "(IJ)I"⟩
abbrev cX5_priorityOf : ByteArray := prog_7_method_7_code
def yX5_priorityOf : MethodName := ⟨RX5, "priorityOf", "(I)I"⟩
def RX6 : String := "LabelPlacer$Text"
def TX6 : u_T := fun k => match k with
  | 0 => ("LabelPlacer$Text", "length", "I", false)
  | _ => ("LabelPlacer$Text", "bytes", "[B", true)
def tyX6 : Nat → FieldType := fun k => match k with
  | 0 => .int
  | _ => .array .byte
abbrev wsX60 : List Cond := u_ws RX6 TX6 2
theorem nmX6 : ∀ a, a < 2 → ∀ b, b < 2 → a ≠ b → (TX6 a).2.1 ≠ (TX6 b).2.1 := by decide +kernel
theorem tyX6_ok : ∀ k, k < 2 → parseFieldDescriptor (TX6 k).2.2.1 = some (tyX6 k) := by decide +kernel
abbrev cX6_init : ByteArray := prog_8_method_1_code
def yX6_init : MethodName := ⟨RX6, "<init>", "()V"⟩
abbrev cX6_append : ByteArray := prog_8_method_2_code
def yX6_append : MethodName := ⟨RX6, "append", "(I)V"⟩
abbrev cX6_at : ByteArray := prog_8_method_3_code
def yX6_at : MethodName := ⟨RX6, "at", "(I)I"⟩
abbrev cX6_isDigit : ByteArray := prog_8_method_4_code
def yX6_isDigit : MethodName := ⟨RX6, "isDigit", "(I)Z"⟩
abbrev cX6_isSmallLetter : ByteArray := prog_8_method_5_code
def yX6_isSmallLetter : MethodName := ⟨RX6, "isSmallLetter", "(I)Z"⟩
abbrev cX6_isWord : ByteArray := prog_8_method_6_code
def yX6_isWord : MethodName := ⟨RX6, "isWord", "(IILjava/lang/String;)Z"⟩
def RX7 : String := "LabelPlacer$Window"
def TX7 : u_T := fun k => match k with
  | 0 => ("LabelPlacer$Window", "x", "I", false)
  | 1 => ("LabelPlacer$Window", "y", "I", false)
  | 2 => ("LabelPlacer$Window", "width", "I", false)
  | _ => ("LabelPlacer$Window", "height", "I", false)
def tyX7 : Nat → FieldType := fun k => match k with
  | 0 => .int
  | 1 => .int
  | 2 => .int
  | _ => .int
abbrev wsX70 : List Cond := u_ws RX7 TX7 4
theorem nmX7 : ∀ a, a < 4 → ∀ b, b < 4 → a ≠ b → (TX7 a).2.1 ≠ (TX7 b).2.1 := by decide +kernel
theorem tyX7_ok : ∀ k, k < 4 → parseFieldDescriptor (TX7 k).2.2.1 = some (tyX7 k) := by decide +kernel
abbrev cX7_init : ByteArray := prog_9_method_1_code
def yX7_init : MethodName := ⟨RX7, "<init>", "()V"⟩
abbrev cX7_allows : ByteArray := prog_9_method_2_code
def yX7_allows : MethodName := ⟨RX7, "allows", "(JJII)Z"⟩
abbrev cX7_put : ByteArray := prog_9_method_3_code
def yX7_put : MethodName := ⟨RX7, "put", "(IIII)V"⟩
abbrev cX7_holds : ByteArray := prog_9_method_4_code
def yX7_holds : MethodName := ⟨RX7, "holds", "(IIII)Z"⟩
abbrev cX7_greatestX : ByteArray := prog_9_method_5_code
def yX7_greatestX : MethodName := ⟨RX7, "greatestX", "()I"⟩
abbrev cX7_greatestY : ByteArray := prog_9_method_6_code
def yX7_greatestY : MethodName := ⟨RX7, "greatestY", "()I"⟩
def RX8 : String := "LabelPlacer"
def TX8 : u_T := fun k => match k with
  | 0 => ("LabelPlacer", "points", "LLabelPlacer$Points;", true)
  | 1 => ("LabelPlacer", "window", "LLabelPlacer$Window;", true)
  | 2 => ("LabelPlacer", "places", "LLabelPlacer$Places;", true)
  | 3 => ("LabelPlacer", "labels", "LLabelPlacer$Labels;", true)
  | 4 => ("LabelPlacer", "search", "LLabelPlacer$Search;", true)
  | 5 => ("LabelPlacer", "lines", "LLabelPlacer$Lines;", true)
  | 6 => ("LabelPlacer", "text", "LLabelPlacer$Text;", true)
  | _ => ("LabelPlacer", "command", "LLabelPlacer$Command;", true)
def tyX8 : Nat → FieldType := fun k => match k with
  | 0 => .object "LabelPlacer$Points"
  | 1 => .object "LabelPlacer$Window"
  | 2 => .object "LabelPlacer$Places"
  | 3 => .object "LabelPlacer$Labels"
  | 4 => .object "LabelPlacer$Search"
  | 5 => .object "LabelPlacer$Lines"
  | 6 => .object "LabelPlacer$Text"
  | _ => .object "LabelPlacer$Command"
abbrev wsX80 : List Cond := u_ws RX8 TX8 8
theorem nmX8 : ∀ a, a < 8 → ∀ b, b < 8 → a ≠ b → (TX8 a).2.1 ≠ (TX8 b).2.1 := by decide +kernel
theorem tyX8_ok : ∀ k, k < 8 → parseFieldDescriptor (TX8 k).2.2.1 = some (tyX8 k) := by decide +kernel
abbrev cX8_init : ByteArray := prog_1_method_1_code
def yX8_init : MethodName := ⟨RX8, "<init>", "()V"⟩
abbrev cX8_addPoint : ByteArray := prog_1_method_2_code
def yX8_addPoint : MethodName := ⟨RX8, "addPoint", "(IIIIII)I"⟩
abbrev cX8_removePoint : ByteArray := prog_1_method_3_code
def yX8_removePoint : MethodName := ⟨RX8, "removePoint", "(I)I"⟩
abbrev cX8_setPoint : ByteArray := prog_1_method_4_code
def yX8_setPoint : MethodName := ⟨RX8, "setPoint", "(III)I"⟩
abbrev cX8_point : ByteArray := prog_1_method_5_code
def yX8_point : MethodName := ⟨RX8, "point", "(II)I"⟩
abbrev cX8_setWindow : ByteArray := prog_1_method_6_code
def yX8_setWindow : MethodName := ⟨RX8, "setWindow", "(IIII)I"⟩
abbrev cX8_pan : ByteArray := prog_1_method_7_code
def yX8_pan : MethodName := ⟨RX8, "pan", "(II)I"⟩
abbrev cX8_renew : ByteArray := prog_1_method_8_code
def yX8_renew : MethodName := ⟨RX8, "renew", "()I"⟩
abbrev cX8_place : ByteArray := prog_1_method_9_code
def yX8_place : MethodName := ⟨RX8, "place", "(III)I"⟩
abbrev cX8_clash : ByteArray := prog_1_method_10_code
def yX8_clash : MethodName := ⟨RX8, "clash", "(IIII)I"⟩
abbrev cX8_labelAt : ByteArray := prog_1_method_11_code
def yX8_labelAt : MethodName := ⟨RX8, "labelAt", "(II)I"⟩
abbrev cX8_isSide : ByteArray := prog_1_method_12_code
def yX8_isSide : MethodName := ⟨RX8, "isSide", "(I)Z"⟩
abbrev cX8_fill : ByteArray := prog_1_method_13_code
def yX8_fill : MethodName := ⟨RX8, "fill", "()I"⟩
abbrev cX8_improve : ByteArray := prog_1_method_14_code
def yX8_improve : MethodName := ⟨RX8, "improve", "()I"⟩
abbrev cX8_push : ByteArray := prog_1_method_15_code
def yX8_push : MethodName := ⟨RX8, "push", "()I"⟩
abbrev cX8_show : ByteArray := prog_1_method_16_code
def yX8_show : MethodName := ⟨RX8, "show", "(II)I"⟩
abbrev cX8_hideAll : ByteArray := prog_1_method_17_code
def yX8_hideAll : MethodName := ⟨RX8, "hideAll", "()I"⟩
abbrev cX8_greatest : ByteArray := prog_1_method_18_code
def yX8_greatest : MethodName := ⟨RX8, "greatest", "()I"⟩
abbrev cX8_leaders : ByteArray := prog_1_method_19_code
def yX8_leaders : MethodName := ⟨RX8, "leaders", "()I"⟩
abbrev cX8_leader : ByteArray := prog_1_method_20_code
def yX8_leader : MethodName := ⟨RX8, "leader", "(II)I"⟩
abbrev cX8_type : ByteArray := prog_1_method_21_code
def yX8_type : MethodName := ⟨RX8, "type", "(I)I"⟩
abbrev cX8_clear : ByteArray := prog_1_method_22_code
def yX8_clear : MethodName := ⟨RX8, "clear", "()I"⟩
abbrev cX8_run : ByteArray := prog_1_method_23_code
def yX8_run : MethodName := ⟨RX8, "run", "()I"⟩
abbrev cX8_count : ByteArray := prog_1_method_24_code
def yX8_count : MethodName := ⟨RX8, "count", "(I)I"⟩
abbrev cX8_digest : ByteArray := prog_1_method_25_code
def yX8_digest : MethodName := ⟨RX8, "digest", "()J"⟩
abbrev cX8_withPoint : ByteArray := prog_1_method_26_code
def yX8_withPoint : MethodName := ⟨RX8, "withPoint", "(JI)J"⟩
def RX9 : String := "LabelPlacerModel"
def TX9 : u_T := fun k => match k with
  | 0 => ("LabelPlacerModel", "m", "[I", true)
  | 1 => ("LabelPlacerModel", "many", "I", false)
  | 2 => ("LabelPlacerModel", "wx", "I", false)
  | 3 => ("LabelPlacerModel", "wy", "I", false)
  | 4 => ("LabelPlacerModel", "ww", "I", false)
  | 5 => ("LabelPlacerModel", "wh", "I", false)
  | 6 => ("LabelPlacerModel", "place", "[Z", true)
  | 7 => ("LabelPlacerModel", "order", "[I", true)
  | 8 => ("LabelPlacerModel", "tried", "[I", true)
  | 9 => ("LabelPlacerModel", "those", "[I", true)
  | 10 => ("LabelPlacerModel", "leader", "[I", true)
  | 11 => ("LabelPlacerModel", "leaders", "I", false)
  | 12 => ("LabelPlacerModel", "queue", "[I", true)
  | 13 => ("LabelPlacerModel", "text", "[I", true)
  | 14 => ("LabelPlacerModel", "textLength", "I", false)
  | 15 => ("LabelPlacerModel", "at", "I", false)
  | 16 => ("LabelPlacerModel", "fault", "I", false)
  | 17 => ("LabelPlacerModel", "word", "[I", true)
  | 18 => ("LabelPlacerModel", "letters", "I", false)
  | 19 => ("LabelPlacerModel", "read", "[I", true)
  | _ => ("LabelPlacerModel", "hash", "J", false)
def tyX9 : Nat → FieldType := fun k => match k with
  | 0 => .array .int
  | 1 => .int
  | 2 => .int
  | 3 => .int
  | 4 => .int
  | 5 => .int
  | 6 => .array .boolean
  | 7 => .array .int
  | 8 => .array .int
  | 9 => .array .int
  | 10 => .array .int
  | 11 => .int
  | 12 => .array .int
  | 13 => .array .int
  | 14 => .int
  | 15 => .int
  | 16 => .int
  | 17 => .array .int
  | 18 => .int
  | 19 => .array .int
  | _ => .long
abbrev wsX90 : List Cond := u_ws RX9 TX9 21
theorem nmX9 : ∀ a, a < 21 → ∀ b, b < 21 → a ≠ b → (TX9 a).2.1 ≠ (TX9 b).2.1 := by decide +kernel
theorem tyX9_ok : ∀ k, k < 21 → parseFieldDescriptor (TX9 k).2.2.1 = some (tyX9 k) := by decide +kernel
abbrev cX9_init : ByteArray := prog_11_method_1_code
def yX9_init : MethodName := ⟨RX9, "<init>", "()V"⟩
abbrev cX9_in : ByteArray := prog_11_method_2_code
def yX9_in : MethodName := ⟨RX9, "in", "(JJJ)Z"⟩
abbrev cX9_isPoint : ByteArray := prog_11_method_3_code
def yX9_isPoint : MethodName := ⟨RX9, "isPoint", "(I)Z"⟩
abbrev cX9_isVisible : ByteArray := prog_11_method_4_code
def yX9_isVisible : MethodName := ⟨RX9, "isVisible", "(I)Z"⟩
abbrev cX9_left : ByteArray := prog_11_method_5_code
def yX9_left : MethodName := ⟨RX9, "left", "(II)I"⟩
abbrev cX9_bottom : ByteArray := prog_11_method_6_code
def yX9_bottom : MethodName := ⟨RX9, "bottom", "(II)I"⟩
abbrev cX9_covers : ByteArray := prog_11_method_7_code
def yX9_covers : MethodName := ⟨RX9, "covers", "(IIII)Z"⟩
abbrev cX9_finds : ByteArray := prog_11_method_8_code
def yX9_finds : MethodName := ⟨RX9, "finds", "(II)Z"⟩
abbrev cX9_findsAll : ByteArray := prog_11_method_9_code
def yX9_findsAll : MethodName := ⟨RX9, "findsAll", "()V"⟩
abbrev cX9_meet : ByteArray := prog_11_method_10_code
def yX9_meet : MethodName := ⟨RX9, "meet", "(IIII)Z"⟩
abbrev cX9_clashes : ByteArray := prog_11_method_11_code
def yX9_clashes : MethodName := ⟨RX9, "clashes", "(III)I"⟩
abbrev cX9_clashing : ByteArray := prog_11_method_12_code
def yX9_clashing : MethodName := ⟨RX9, "clashing", "(II)I"⟩
abbrev cX9_settles : ByteArray := prog_11_method_13_code
def yX9_settles : MethodName := ⟨RX9, "settles", "()V"⟩
abbrev cX9_shown : ByteArray := prog_11_method_14_code
def yX9_shown : MethodName := ⟨RX9, "shown", "()I"⟩
abbrev cX9_orders : ByteArray := prog_11_method_15_code
def yX9_orders : MethodName := ⟨RX9, "orders", "()V"⟩
abbrev cX9_isProperty : ByteArray := prog_11_method_16_code
def yX9_isProperty : MethodName := ⟨RX9, "isProperty", "(II)Z"⟩
abbrev cX9_pointAt : ByteArray := prog_11_method_17_code
def yX9_pointAt : MethodName := ⟨RX9, "pointAt", "(II)I"⟩
abbrev cX9_addPoint : ByteArray := prog_11_method_18_code
def yX9_addPoint : MethodName := ⟨RX9, "addPoint", "(IIIIII)I"⟩
abbrev cX9_removePoint : ByteArray := prog_11_method_19_code
def yX9_removePoint : MethodName := ⟨RX9, "removePoint", "(I)I"⟩
abbrev cX9_setPoint : ByteArray := prog_11_method_20_code
def yX9_setPoint : MethodName := ⟨RX9, "setPoint", "(III)I"⟩
abbrev cX9_placesOf : ByteArray := prog_11_method_21_code
def yX9_placesOf : MethodName := ⟨RX9, "placesOf", "(I)I"⟩
abbrev cX9_part : ByteArray := prog_11_method_22_code
def yX9_part : MethodName := ⟨RX9, "part", "(II)I"⟩
abbrev cX9_point : ByteArray := prog_11_method_23_code
def yX9_point : MethodName := ⟨RX9, "point", "(II)I"⟩
abbrev cX9_visible : ByteArray := prog_11_method_24_code
def yX9_visible : MethodName := ⟨RX9, "visible", "()I"⟩
abbrev cX9_setWindow : ByteArray := prog_11_method_25_code
def yX9_setWindow : MethodName := ⟨RX9, "setWindow", "(IIII)I"⟩
abbrev cX9_pan : ByteArray := prog_11_method_26_code
def yX9_pan : MethodName := ⟨RX9, "pan", "(II)I"⟩
abbrev cX9_meets : ByteArray := prog_11_method_27_code
def yX9_meets : MethodName := ⟨RX9, "meets", "(II)I"⟩
abbrev cX9_placePart : ByteArray := prog_11_method_28_code
def yX9_placePart : MethodName := ⟨RX9, "placePart", "(III)I"⟩
abbrev cX9_isSide : ByteArray := prog_11_method_29_code
def yX9_isSide : MethodName := ⟨RX9, "isSide", "(I)Z"⟩
abbrev cX9_place : ByteArray := prog_11_method_30_code
def yX9_place : MethodName := ⟨RX9, "place", "(III)I"⟩
abbrev cX9_clash : ByteArray := prog_11_method_31_code
def yX9_clash : MethodName := ⟨RX9, "clash", "(IIII)I"⟩
abbrev cX9_labelAt : ByteArray := prog_11_method_32_code
def yX9_labelAt : MethodName := ⟨RX9, "labelAt", "(II)I"⟩
abbrev cX9_wants : ByteArray := prog_11_method_33_code
def yX9_wants : MethodName := ⟨RX9, "wants", "(I)Z"⟩
abbrev cX9_fill : ByteArray := prog_11_method_34_code
def yX9_fill : MethodName := ⟨RX9, "fill", "()I"⟩
abbrev cX9_escapes : ByteArray := prog_11_method_35_code
def yX9_escapes : MethodName := ⟨RX9, "escapes", "(III)I"⟩
abbrev cX9_makesRoom : ByteArray := prog_11_method_36_code
def yX9_makesRoom : MethodName := ⟨RX9, "makesRoom", "(II)Z"⟩
abbrev cX9_improve : ByteArray := prog_11_method_37_code
def yX9_improve : MethodName := ⟨RX9, "improve", "()I"⟩
abbrev cX9_isStronger : ByteArray := prog_11_method_38_code
def yX9_isStronger : MethodName := ⟨RX9, "isStronger", "(II)Z"⟩
abbrev cX9_strongest : ByteArray := prog_11_method_39_code
def yX9_strongest : MethodName := ⟨RX9, "strongest", "(I)I"⟩
abbrev cX9_pushes : ByteArray := prog_11_method_40_code
def yX9_pushes : MethodName := ⟨RX9, "pushes", "()Z"⟩
abbrev cX9_push : ByteArray := prog_11_method_41_code
def yX9_push : MethodName := ⟨RX9, "push", "()I"⟩
abbrev cX9_show : ByteArray := prog_11_method_42_code
def yX9_show : MethodName := ⟨RX9, "show", "(II)I"⟩
abbrev cX9_hideAll : ByteArray := prog_11_method_43_code
def yX9_hideAll : MethodName := ⟨RX9, "hideAll", "()I"⟩
abbrev cX9_fitsWith : ByteArray := prog_11_method_44_code
def yX9_fitsWith : MethodName := ⟨RX9, "fitsWith", "(I)Z"⟩
abbrev cX9_greatest : ByteArray := prog_11_method_45_code
def yX9_greatest : MethodName := ⟨RX9, "greatest", "()I"⟩
abbrev cX9_sum : ByteArray := prog_11_method_46_code
def yX9_sum : MethodName := ⟨RX9, "sum", "(I)I"⟩
abbrev cX9_isAhead : ByteArray := prog_11_method_47_code
def yX9_isAhead : MethodName := ⟨RX9, "isAhead", "(II)Z"⟩
abbrev cX9_leaders : ByteArray := prog_11_method_48_code
def yX9_leaders : MethodName := ⟨RX9, "leaders", "()I"⟩
abbrev cX9_leader : ByteArray := prog_11_method_49_code
def yX9_leader : MethodName := ⟨RX9, "leader", "(II)I"⟩
abbrev cX9_type : ByteArray := prog_11_method_50_code
def yX9_type : MethodName := ⟨RX9, "type", "(I)I"⟩
abbrev cX9_clear : ByteArray := prog_11_method_51_code
def yX9_clear : MethodName := ⟨RX9, "clear", "()I"⟩
abbrev cX9_next : ByteArray := prog_11_method_52_code
def yX9_next : MethodName := ⟨RX9, "next", "()I"⟩
abbrev cX9_skips : ByteArray := prog_11_method_53_code
def yX9_skips : MethodName := ⟨RX9, "skips", "()V"⟩
abbrev cX9_fails : ByteArray := prog_11_method_54_code
def yX9_fails : MethodName := ⟨RX9, "fails", "(I)V"⟩
abbrev cX9_readsWord : ByteArray := prog_11_method_55_code
def yX9_readsWord : MethodName := ⟨RX9, "readsWord", "()V"⟩
abbrev cX9_isWord : ByteArray := prog_11_method_56_code
def yX9_isWord : MethodName := ⟨RX9, "isWord", "(IIIIIII)Z"⟩
abbrev cX9_command : ByteArray := prog_11_method_57_code
def yX9_command : MethodName := ⟨RX9, "command", "()I"⟩
abbrev cX9_readsNumber : ByteArray := prog_11_method_58_code
def yX9_readsNumber : MethodName := ⟨RX9, "readsNumber", "()I"⟩
abbrev cX9_readsWhole : ByteArray := prog_11_method_59_code
def yX9_readsWhole : MethodName := ⟨RX9, "readsWhole", "()I"⟩
abbrev cX9_reads : ByteArray := prog_11_method_60_code
def yX9_reads : MethodName := ⟨RX9, "reads", "()I"⟩
abbrev cX9_run : ByteArray := prog_11_method_61_code
def yX9_run : MethodName := ⟨RX9, "run", "()I"⟩
abbrev cX9_places : ByteArray := prog_11_method_62_code
def yX9_places : MethodName := ⟨RX9, "places", "()I"⟩
abbrev cX9_pairs : ByteArray := prog_11_method_63_code
def yX9_pairs : MethodName := ⟨RX9, "pairs", "()I"⟩
abbrev cX9_priorities : ByteArray := prog_11_method_64_code
def yX9_priorities : MethodName := ⟨RX9, "priorities", "()I"⟩
abbrev cX9_pushing : ByteArray := prog_11_method_65_code
def yX9_pushing : MethodName := ⟨RX9, "pushing", "()I"⟩
abbrev cX9_number : ByteArray := prog_11_method_66_code
def yX9_number : MethodName := ⟨RX9, "number", "(I)I"⟩
abbrev cX9_count : ByteArray := prog_11_method_67_code
def yX9_count : MethodName := ⟨RX9, "count", "(I)I"⟩
abbrev cX9_mixes : ByteArray := prog_11_method_68_code
def yX9_mixes : MethodName := ⟨RX9, "mixes", "(J)V"⟩
abbrev cX9_digest : ByteArray := prog_11_method_69_code
def yX9_digest : MethodName := ⟨RX9, "digest", "()J"⟩
def RJx145de : String := "java/io/Serializable"
def TJx145de : u_T := fun k => match k with
  | _ => ("", "", "", false)
def tyJx145de : Nat → FieldType := fun k => match k with
  | _ => .int
abbrev wsJx145de0 : List Cond := u_ws RJx145de TJx145de 0
theorem nmJx145de : ∀ a, a < 0 → ∀ b, b < 0 → a ≠ b → (TJx145de a).2.1 ≠ (TJx145de b).2.1 := by decide +kernel
theorem tyJx145de_ok : ∀ k, k < 0 → parseFieldDescriptor (TJx145de k).2.2.1 = some (tyJx145de k) := by decide +kernel
def RJx9f9b0 : String := "java/lang/CharSequence"
def TJx9f9b0 : u_T := fun k => match k with
  | _ => ("", "", "", false)
def tyJx9f9b0 : Nat → FieldType := fun k => match k with
  | _ => .int
abbrev wsJx9f9b00 : List Cond := u_ws RJx9f9b0 TJx9f9b0 0
theorem nmJx9f9b0 : ∀ a, a < 0 → ∀ b, b < 0 → a ≠ b → (TJx9f9b0 a).2.1 ≠ (TJx9f9b0 b).2.1 := by decide +kernel
theorem tyJx9f9b0_ok : ∀ k, k < 0 → parseFieldDescriptor (TJx9f9b0 k).2.2.1 = some (tyJx9f9b0 k) := by decide +kernel
def RJxb160c : String := "java/lang/Comparable"
def TJxb160c : u_T := fun k => match k with
  | _ => ("", "", "", false)
def tyJxb160c : Nat → FieldType := fun k => match k with
  | _ => .int
abbrev wsJxb160c0 : List Cond := u_ws RJxb160c TJxb160c 0
theorem nmJxb160c : ∀ a, a < 0 → ∀ b, b < 0 → a ≠ b → (TJxb160c a).2.1 ≠ (TJxb160c b).2.1 := by decide +kernel
theorem tyJxb160c_ok : ∀ k, k < 0 → parseFieldDescriptor (TJxb160c k).2.2.1 = some (tyJxb160c k) := by decide +kernel
def RJ9 : String := "java/lang/Math"
def TJ9 : u_T := fun k => match k with
  | _ => ("", "", "", false)
def tyJ9 : Nat → FieldType := fun k => match k with
  | _ => .int
abbrev wsJ90 : List Cond := u_ws RJ9 TJ9 0
theorem nmJ9 : ∀ a, a < 0 → ∀ b, b < 0 → a ≠ b → (TJ9 a).2.1 ≠ (TJ9 b).2.1 := by decide +kernel
theorem tyJ9_ok : ∀ k, k < 0 → parseFieldDescriptor (TJ9 k).2.2.1 = some (tyJ9 k) := by decide +kernel
abbrev cJ9_abs_0f7a4 : ByteArray := prog_12_method_59_code
def yJ9_abs_0f7a4 : MethodName := ⟨RJ9, "abs", "(I)I"⟩
abbrev cJ9_max_7cf53 : ByteArray := prog_12_method_65_code
def yJ9_max_7cf53 : MethodName := ⟨RJ9, "max", "(II)I"⟩
def RJ0 : String := "java/lang/String"
def TJ0 : u_T := fun k => match k with
  | _ => ("", "", "", false)
def tyJ0 : Nat → FieldType := fun k => match k with
  | _ => .int
abbrev wsJ00 : List Cond := u_ws RJ0 TJ0 0
theorem nmJ0 : ∀ a, a < 0 → ∀ b, b < 0 → a ≠ b → (TJ0 a).2.1 ≠ (TJ0 b).2.1 := by decide +kernel
theorem tyJ0_ok : ∀ k, k < 0 → parseFieldDescriptor (TJ0 k).2.2.1 = some (tyJ0 k) := by decide +kernel
abbrev cJ0_length_8abf5 : ByteArray := prog_13_method_54_code
def yJ0_length_8abf5 : MethodName := ⟨RJ0, "length", "()I"⟩
abbrev cJ0_charAt_5068e : ByteArray := prog_13_method_56_code
def yJ0_charAt_5068e : MethodName := ⟨RJ0, "charAt", "(I)C"⟩
abbrev cJ0_coder_7d493 : ByteArray := prog_13_method_152_code
def yJ0_coder_7d493 : MethodName := ⟨RJ0, "coder", "()B"⟩
abbrev cJ0_isLatin1_aae02 : ByteArray := prog_13_method_154_code
def yJ0_isLatin1_aae02 : MethodName := ⟨RJ0, "isLatin1", "()Z"⟩
abbrev cJ0_checkIndex_df160 : ByteArray := prog_13_method_155_code
def yJ0_checkIndex_df160 : MethodName := ⟨RJ0, "checkIndex", "(II)V"⟩
def RJ1 : String := "java/lang/StringLatin1"
def TJ1 : u_T := fun k => match k with
  | _ => ("", "", "", false)
def tyJ1 : Nat → FieldType := fun k => match k with
  | _ => .int
abbrev wsJ10 : List Cond := u_ws RJ1 TJ1 0
theorem nmJ1 : ∀ a, a < 0 → ∀ b, b < 0 → a ≠ b → (TJ1 a).2.1 ≠ (TJ1 b).2.1 := by decide +kernel
theorem tyJ1_ok : ∀ k, k < 0 → parseFieldDescriptor (TJ1 k).2.2.1 = some (tyJ1 k) := by decide +kernel
abbrev cJ1_charAt_3b067 : ByteArray := prog_14_method_2_code
def yJ1_charAt_3b067 : MethodName := ⟨RJ1, "charAt", "([BI)C"⟩
def RJ2 : String := "java/lang/StringUTF16"
def TJ2 : u_T := fun k => match k with
  | _ => ("", "", "", false)
def tyJ2 : Nat → FieldType := fun k => match k with
  | _ => .int
abbrev wsJ20 : List Cond := u_ws RJ2 TJ2 0
theorem nmJ2 : ∀ a, a < 0 → ∀ b, b < 0 → a ≠ b → (TJ2 a).2.1 ≠ (TJ2 b).2.1 := by decide +kernel
theorem tyJ2_ok : ∀ k, k < 0 → parseFieldDescriptor (TJ2 k).2.2.1 = some (tyJ2 k) := by decide +kernel
abbrev cJ2_getChar_3b067 : ByteArray := prog_15_method_5_code
def yJ2_getChar_3b067 : MethodName := ⟨RJ2, "getChar", "([BI)C"⟩
abbrev cJ2_length_9d52b : ByteArray := prog_15_method_6_code
def yJ2_length_9d52b : MethodName := ⟨RJ2, "length", "([B)I"⟩
abbrev cJ2_charAt_3b067 : ByteArray := prog_15_method_83_code
def yJ2_charAt_3b067 : MethodName := ⟨RJ2, "charAt", "([BI)C"⟩
abbrev cJ2_checkIndex_2214a : ByteArray := prog_15_method_91_code
def yJ2_checkIndex_2214a : MethodName := ⟨RJ2, "checkIndex", "(I[B)V"⟩
def RJxfd54e : String := "java/lang/constant/Constable"
def TJxfd54e : u_T := fun k => match k with
  | _ => ("", "", "", false)
def tyJxfd54e : Nat → FieldType := fun k => match k with
  | _ => .int
abbrev wsJxfd54e0 : List Cond := u_ws RJxfd54e TJxfd54e 0
theorem nmJxfd54e : ∀ a, a < 0 → ∀ b, b < 0 → a ≠ b → (TJxfd54e a).2.1 ≠ (TJxfd54e b).2.1 := by decide +kernel
theorem tyJxfd54e_ok : ∀ k, k < 0 → parseFieldDescriptor (TJxfd54e k).2.2.1 = some (tyJxfd54e k) := by decide +kernel
def RJx3cf43 : String := "java/lang/constant/ConstantDesc"
def TJx3cf43 : u_T := fun k => match k with
  | _ => ("", "", "", false)
def tyJx3cf43 : Nat → FieldType := fun k => match k with
  | _ => .int
abbrev wsJx3cf430 : List Cond := u_ws RJx3cf43 TJx3cf43 0
theorem nmJx3cf43 : ∀ a, a < 0 → ∀ b, b < 0 → a ≠ b → (TJx3cf43 a).2.1 ≠ (TJx3cf43 b).2.1 := by decide +kernel
theorem tyJx3cf43_ok : ∀ k, k < 0 → parseFieldDescriptor (TJx3cf43 k).2.2.1 = some (tyJx3cf43 k) := by decide +kernel
def RJ7 : String := "java/util/Arrays"
def TJ7 : u_T := fun k => match k with
  | _ => ("", "", "", false)
def tyJ7 : Nat → FieldType := fun k => match k with
  | _ => .int
abbrev wsJ70 : List Cond := u_ws RJ7 TJ7 0
theorem nmJ7 : ∀ a, a < 0 → ∀ b, b < 0 → a ≠ b → (TJ7 a).2.1 ≠ (TJ7 b).2.1 := by decide +kernel
theorem tyJ7_ok : ∀ k, k < 0 → parseFieldDescriptor (TJ7 k).2.2.1 = some (tyJ7 k) := by decide +kernel
abbrev cJ7_fill_53178 : ByteArray := prog_16_method_103_code
def yJ7_fill_53178 : MethodName := ⟨RJ7, "fill", "([II)V"⟩
def RJ3 : String := "jdk/internal/util/Preconditions"
def TJ3 : u_T := fun k => match k with
  | _ => ("", "", "", false)
def tyJ3 : Nat → FieldType := fun k => match k with
  | _ => .int
abbrev wsJ30 : List Cond := u_ws RJ3 TJ3 0
theorem nmJ3 : ∀ a, a < 0 → ∀ b, b < 0 → a ≠ b → (TJ3 a).2.1 ≠ (TJ3 b).2.1 := by decide +kernel
theorem tyJ3_ok : ∀ k, k < 0 → parseFieldDescriptor (TJ3 k).2.2.1 = some (tyJ3 k) := by decide +kernel
abbrev cJ3_checkIndex_8e157 : ByteArray := prog_17_method_11_code
def yJ3_checkIndex_8e157 : MethodName := ⟨RJ3, "checkIndex", "(IILjava/util/function/BiFunction;)I"⟩
def RL : String := "LabelPlacerLaw"
abbrev cL_law : ByteArray := code
def yL_law : MethodName := ⟨RL, "law", "([I)Z"⟩
abbrev vwCl : List vw_C := [(RX0, TX0, 3), (RX1, TX1, 3), (RX2, TX2, 6), (RX3, TX3, 7), (RX4, TX4, 3), (RX5, TX5, 5), (RX6, TX6, 2), (RX7, TX7, 4), (RX8, TX8, 8), (RX9, TX9, 21)]
/-- the words that stay good over calls -/
def qx_tb : List Cond := lw_tbl.filter goodWord
theorem inX0 : ∀ w ∈ wsX00, w ∈ qx_tb := by decide +kernel
theorem inX1 : ∀ w ∈ wsX10, w ∈ qx_tb := by decide +kernel
theorem inX2 : ∀ w ∈ wsX20, w ∈ qx_tb := by decide +kernel
theorem inX3 : ∀ w ∈ wsX30, w ∈ qx_tb := by decide +kernel
theorem inX4 : ∀ w ∈ wsX40, w ∈ qx_tb := by decide +kernel
theorem inX5 : ∀ w ∈ wsX50, w ∈ qx_tb := by decide +kernel
theorem inX6 : ∀ w ∈ wsX60, w ∈ qx_tb := by decide +kernel
theorem inX7 : ∀ w ∈ wsX70, w ∈ qx_tb := by decide +kernel
theorem inX8 : ∀ w ∈ wsX80, w ∈ qx_tb := by decide +kernel
theorem inX9 : ∀ w ∈ wsX90, w ∈ qx_tb := by decide +kernel
theorem qx_tbOf {w : Cond} (h : w ∈ lw_tbl) (h2 : goodWord w = true) : w ∈ qx_tb := List.mem_filter.mpr ⟨h, h2⟩
theorem qx_tbIn {w : Cond} (h : w ∈ qx_tb) : w ∈ lw_tbl := (List.mem_filter.mp h).1
theorem qx_goodIn {w : Cond} (h : w ∈ qx_tb) : GoodIn qx_tb (w :: qx_tb) := fun v hv => by
  have h1 : v ∈ qx_tb := by
    rcases List.mem_cons.mp hv with rfl | h2
    · exact h
    · exact h2
  exact ⟨h1, good_of_word (List.mem_filter.mp h1).2⟩
