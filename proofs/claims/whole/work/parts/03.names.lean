def RX0 : String := "Quizspool$Plan"
def TX0 : u_T := fun k => match k with
  | 0 => ("Quizspool$Plan", "week", "I", true)
  | 1 => ("Quizspool$Plan", "kind", "C", true)
  | 2 => ("Quizspool$Plan", "many", "I", true)
  | 3 => ("Quizspool$Plan", "held", "Ljava/util/ArrayList;", true)
  | _ => ("Quizspool$Plan", "isDropped", "Z", false)
def tyX0 : Nat → FieldType := fun k => match k with
  | 0 => .int
  | 1 => .char
  | 2 => .int
  | 3 => .object "java/util/ArrayList"
  | _ => .boolean
abbrev wsX00 : List Cond := u_ws RX0 TX0 5
theorem nmX0 : ∀ a, a < 5 → ∀ b, b < 5 → a ≠ b → (TX0 a).2.1 ≠ (TX0 b).2.1 := by decide +kernel
theorem tyX0_ok : ∀ k, k < 5 → parseFieldDescriptor (TX0 k).2.2.1 = some (tyX0 k) := by decide +kernel
abbrev cX0_init : ByteArray := prog_2_method_1_code
def yX0_init : MethodName := ⟨RX0, "<init>", "(ICI)V"⟩
abbrev cX0_missing : ByteArray := prog_2_method_2_code
def yX0_missing : MethodName := ⟨RX0, "missing", "()I"⟩
def RX1 : String := "Quizspool$Question"
def TX1 : u_T := fun k => match k with
  | 0 => ("Quizspool$Question", "number", "I", true)
  | 1 => ("Quizspool$Question", "words", "[I", true)
  | 2 => ("Quizspool$Question", "firstLevel", "I", true)
  | 3 => ("Quizspool$Question", "level", "I", false)
  | 4 => ("Quizspool$Question", "rights", "[Z", true)
  | 5 => ("Quizspool$Question", "rightsCount", "I", false)
  | 6 => ("Quizspool$Question", "family", "I", false)
  | 7 => ("Quizspool$Question", "rank", "I", false)
  | 8 => ("Quizspool$Question", "isHeld", "Z", false)
  | 9 => ("Quizspool$Question", "holders", "I", false)
  | _ => ("Quizspool$Question", "printedWeek", "I", false)
def tyX1 : Nat → FieldType := fun k => match k with
  | 0 => .int
  | 1 => .array .int
  | 2 => .int
  | 3 => .int
  | 4 => .array .boolean
  | 5 => .int
  | 6 => .int
  | 7 => .int
  | 8 => .boolean
  | 9 => .int
  | _ => .int
abbrev wsX10 : List Cond := u_ws RX1 TX1 11
theorem nmX1 : ∀ a, a < 11 → ∀ b, b < 11 → a ≠ b → (TX1 a).2.1 ≠ (TX1 b).2.1 := by decide +kernel
theorem tyX1_ok : ∀ k, k < 11 → parseFieldDescriptor (TX1 k).2.2.1 = some (tyX1 k) := by decide +kernel
abbrev cX1_init : ByteArray := prog_3_method_1_code
def yX1_init : MethodName := ⟨RX1, "<init>", "(I[II)V"⟩
abbrev cX1_kindNow : ByteArray := prog_3_method_2_code
def yX1_kindNow : MethodName := ⟨RX1, "kindNow", "()C"⟩
abbrev cX1_rankFor : ByteArray := prog_3_method_3_code
def yX1_rankFor : MethodName := ⟨RX1, "rankFor", "(I)I"⟩
abbrev cX1_takeAnswer : ByteArray := prog_3_method_4_code
def yX1_takeAnswer : MethodName := ⟨RX1, "takeAnswer", "(Z)V"⟩
abbrev cX1_levelByAnswers : ByteArray := prog_3_method_5_code
def yX1_levelByAnswers : MethodName := ⟨RX1, "levelByAnswers", "()I"⟩
abbrev cX1_shifted : ByteArray := prog_3_method_6_code
def yX1_shifted : MethodName := ⟨RX1, "shifted", "(IZ)I"⟩
def RX2 : String := "Quizspool$Sheet"
def TX2 : u_T := fun k => match k with
  | 0 => ("Quizspool$Sheet", "questions", "Ljava/util/ArrayList;", true)
  | 1 => ("Quizspool$Sheet", "isAnswered", "[Z", true)
  | _ => ("Quizspool$Sheet", "state", "C", false)
def tyX2 : Nat → FieldType := fun k => match k with
  | 0 => .object "java/util/ArrayList"
  | 1 => .array .boolean
  | _ => .char
abbrev wsX20 : List Cond := u_ws RX2 TX2 3
theorem nmX2 : ∀ a, a < 3 → ∀ b, b < 3 → a ≠ b → (TX2 a).2.1 ≠ (TX2 b).2.1 := by decide +kernel
theorem tyX2_ok : ∀ k, k < 3 → parseFieldDescriptor (TX2 k).2.2.1 = some (tyX2 k) := by decide +kernel
abbrev cX2_init : ByteArray := prog_4_method_1_code
def yX2_init : MethodName := ⟨RX2, "<init>", "(Ljava/util/ArrayList;)V"⟩
abbrev cX2_markAnswered : ByteArray := prog_4_method_2_code
def yX2_markAnswered : MethodName := ⟨RX2, "markAnswered", "(I)Z"⟩
def RX3 : String := "Quizspool"
def TX3 : u_T := fun k => match k with
  | 0 => ("Quizspool", "row", "[I", true)
  | 1 => ("Quizspool", "rowCount", "I", false)
  | 2 => ("Quizspool", "questions", "Ljava/util/ArrayList;", true)
  | 3 => ("Quizspool", "hits", "Ljava/util/ArrayList;", true)
  | 4 => ("Quizspool", "plans", "Ljava/util/ArrayList;", true)
  | 5 => ("Quizspool", "sheets", "Ljava/util/ArrayList;", true)
  | 6 => ("Quizspool", "thisWeek", "I", false)
  | 7 => ("Quizspool", "isJammed", "Z", false)
  | 8 => ("Quizspool", "answerCount", "I", false)
  | 9 => ("Quizspool", "rightCount", "I", false)
  | 10 => ("Quizspool", "drawn", "Ljava/util/ArrayList;", true)
  | 11 => ("Quizspool", "candidates", "Ljava/util/ArrayList;", true)
  | _ => ("Quizspool", "text", "Ljava/lang/StringBuilder;", true)
def tyX3 : Nat → FieldType := fun k => match k with
  | 0 => .array .int
  | 1 => .int
  | 2 => .object "java/util/ArrayList"
  | 3 => .object "java/util/ArrayList"
  | 4 => .object "java/util/ArrayList"
  | 5 => .object "java/util/ArrayList"
  | 6 => .int
  | 7 => .boolean
  | 8 => .int
  | 9 => .int
  | 10 => .object "java/util/ArrayList"
  | 11 => .object "java/util/ArrayList"
  | _ => .object "java/lang/StringBuilder"
abbrev wsX30 : List Cond := u_ws RX3 TX3 13
theorem nmX3 : ∀ a, a < 13 → ∀ b, b < 13 → a ≠ b → (TX3 a).2.1 ≠ (TX3 b).2.1 := by decide +kernel
theorem tyX3_ok : ∀ k, k < 13 → parseFieldDescriptor (TX3 k).2.2.1 = some (tyX3 k) := by decide +kernel
abbrev cX3_init : ByteArray := prog_1_method_1_code
def yX3_init : MethodName := ⟨RX3, "<init>", "()V"⟩
abbrev cX3_type : ByteArray := prog_1_method_2_code
def yX3_type : MethodName := ⟨RX3, "type", "(I)I"⟩
abbrev cX3_erase : ByteArray := prog_1_method_3_code
def yX3_erase : MethodName := ⟨RX3, "erase", "()I"⟩
abbrev cX3_add : ByteArray := prog_1_method_4_code
def yX3_add : MethodName := ⟨RX3, "add", "(I)I"⟩
abbrev cX3_twin : ByteArray := prog_1_method_5_code
def yX3_twin : MethodName := ⟨RX3, "twin", "(II)I"⟩
abbrev cX3_areTwins : ByteArray := prog_1_method_6_code
def yX3_areTwins : MethodName := ⟨RX3, "areTwins", "(II)Z"⟩
abbrev cX3_wordAt : ByteArray := prog_1_method_7_code
def yX3_wordAt : MethodName := ⟨RX3, "wordAt", "(II)I"⟩
abbrev cX3_level : ByteArray := prog_1_method_8_code
def yX3_level : MethodName := ⟨RX3, "level", "(I)I"⟩
abbrev cX3_levelAnew : ByteArray := prog_1_method_9_code
def yX3_levelAnew : MethodName := ⟨RX3, "levelAnew", "(I)I"⟩
abbrev cX3_kind : ByteArray := prog_1_method_10_code
def yX3_kind : MethodName := ⟨RX3, "kind", "(I)C"⟩
abbrev cX3_search : ByteArray := prog_1_method_11_code
def yX3_search : MethodName := ⟨RX3, "search", "()I"⟩
abbrev cX3_hitAt : ByteArray := prog_1_method_12_code
def yX3_hitAt : MethodName := ⟨RX3, "hitAt", "(I)I"⟩
abbrev cX3_rankAt : ByteArray := prog_1_method_13_code
def yX3_rankAt : MethodName := ⟨RX3, "rankAt", "(I)I"⟩
abbrev cX3_week : ByteArray := prog_1_method_14_code
def yX3_week : MethodName := ⟨RX3, "week", "()I"⟩
abbrev cX3_nextWeek : ByteArray := prog_1_method_15_code
def yX3_nextWeek : MethodName := ⟨RX3, "nextWeek", "()I"⟩
abbrev cX3_plan : ByteArray := prog_1_method_16_code
def yX3_plan : MethodName := ⟨RX3, "plan", "(ICI)I"⟩
abbrev cX3_drop : ByteArray := prog_1_method_17_code
def yX3_drop : MethodName := ⟨RX3, "drop", "(I)I"⟩
abbrev cX3_held : ByteArray := prog_1_method_18_code
def yX3_held : MethodName := ⟨RX3, "held", "(I)I"⟩
abbrev cX3_heldAt : ByteArray := prog_1_method_19_code
def yX3_heldAt : MethodName := ⟨RX3, "heldAt", "(II)I"⟩
abbrev cX3_lacks : ByteArray := prog_1_method_20_code
def yX3_lacks : MethodName := ⟨RX3, "lacks", "(I)I"⟩
abbrev cX3_isFree : ByteArray := prog_1_method_21_code
def yX3_isFree : MethodName := ⟨RX3, "isFree", "(I)Z"⟩
abbrev cX3_quiz : ByteArray := prog_1_method_22_code
def yX3_quiz : MethodName := ⟨RX3, "quiz", "(IIII)I"⟩
abbrev cX3_quizOf : ByteArray := prog_1_method_23_code
def yX3_quizOf : MethodName := ⟨RX3, "quizOf", "(I)I"⟩
abbrev cX3_size : ByteArray := prog_1_method_24_code
def yX3_size : MethodName := ⟨RX3, "size", "(I)I"⟩
abbrev cX3_questionAt : ByteArray := prog_1_method_25_code
def yX3_questionAt : MethodName := ⟨RX3, "questionAt", "(II)I"⟩
abbrev cX3_stateOf : ByteArray := prog_1_method_26_code
def yX3_stateOf : MethodName := ⟨RX3, "stateOf", "(I)C"⟩
abbrev cX3_waiting : ByteArray := prog_1_method_27_code
def yX3_waiting : MethodName := ⟨RX3, "waiting", "()I"⟩
abbrev cX3_setJam : ByteArray := prog_1_method_28_code
def yX3_setJam : MethodName := ⟨RX3, "setJam", "(Z)Z"⟩
abbrev cX3_print : ByteArray := prog_1_method_29_code
def yX3_print : MethodName := ⟨RX3, "print", "()I"⟩
abbrev cX3_cancel : ByteArray := prog_1_method_30_code
def yX3_cancel : MethodName := ⟨RX3, "cancel", "(I)I"⟩
abbrev cX3_answer : ByteArray := prog_1_method_31_code
def yX3_answer : MethodName := ⟨RX3, "answer", "(IIZ)I"⟩
abbrev cX3_textOf : ByteArray := prog_1_method_32_code
def yX3_textOf : MethodName := ⟨RX3, "textOf", "(II)C"⟩
abbrev cX3_answers : ByteArray := prog_1_method_33_code
def yX3_answers : MethodName := ⟨RX3, "answers", "()I"⟩
abbrev cX3_allLevels : ByteArray := prog_1_method_34_code
def yX3_allLevels : MethodName := ⟨RX3, "allLevels", "()J"⟩
abbrev cX3_rightShare : ByteArray := prog_1_method_35_code
def yX3_rightShare : MethodName := ⟨RX3, "rightShare", "()F"⟩
abbrev cX3_meanLevel : ByteArray := prog_1_method_36_code
def yX3_meanLevel : MethodName := ⟨RX3, "meanLevel", "()D"⟩
abbrev cX3_isSound : ByteArray := prog_1_method_37_code
def yX3_isSound : MethodName := ⟨RX3, "isSound", "()Z"⟩
abbrev cX3_isOutside : ByteArray := prog_1_method_38_code
def yX3_isOutside : MethodName := ⟨RX3, "isOutside", "(III)Z"⟩
abbrev cX3_questionOf : ByteArray := prog_1_method_39_code
def yX3_questionOf : MethodName := ⟨RX3, "questionOf", "(I)LQuizspool$Question;"⟩
abbrev cX3_planOf : ByteArray := prog_1_method_40_code
def yX3_planOf : MethodName := ⟨RX3, "planOf", "(I)LQuizspool$Plan;"⟩
abbrev cX3_sheetOf : ByteArray := prog_1_method_41_code
def yX3_sheetOf : MethodName := ⟨RX3, "sheetOf", "(I)LQuizspool$Sheet;"⟩
abbrev cX3_hitOf : ByteArray := prog_1_method_42_code
def yX3_hitOf : MethodName := ⟨RX3, "hitOf", "(I)LQuizspool$Question;"⟩
abbrev cX3_elementOf : ByteArray := prog_1_method_43_code
def yX3_elementOf : MethodName := ⟨RX3, "elementOf", "(Ljava/util/ArrayList;I)LQuizspool$Question;"⟩
abbrev cX3_wordsOfRow : ByteArray := prog_1_method_44_code
def yX3_wordsOfRow : MethodName := ⟨RX3, "wordsOfRow", "()I"⟩
abbrev cX3_placeAmongHits : ByteArray := prog_1_method_45_code
def yX3_placeAmongHits : MethodName := ⟨RX3, "placeAmongHits", "(I)I"⟩
abbrev cX3_joinFamilies : ByteArray := prog_1_method_46_code
def yX3_joinFamilies : MethodName := ⟨RX3, "joinFamilies", "(II)V"⟩
abbrev cX3_countTwins : ByteArray := prog_1_method_47_code
def yX3_countTwins : MethodName := ⟨RX3, "countTwins", "(LQuizspool$Question;)I"⟩
abbrev cX3_hasRelative : ByteArray := prog_1_method_48_code
def yX3_hasRelative : MethodName := ⟨RX3, "hasRelative", "(Ljava/util/ArrayList;ILQuizspool$Question;)Z"⟩
abbrev cX3_isOpen : ByteArray := prog_1_method_49_code
def yX3_isOpen : MethodName := ⟨RX3, "isOpen", "(LQuizspool$Plan;)Z"⟩
abbrev cX3_isAvailable : ByteArray := prog_1_method_50_code
def yX3_isAvailable : MethodName := ⟨RX3, "isAvailable", "(LQuizspool$Question;)Z"⟩
abbrev cX3_settlePlans : ByteArray := prog_1_method_51_code
def yX3_settlePlans : MethodName := ⟨RX3, "settlePlans", "()V"⟩
abbrev cX3_letGoUnfit : ByteArray := prog_1_method_52_code
def yX3_letGoUnfit : MethodName := ⟨RX3, "letGoUnfit", "(LQuizspool$Plan;)V"⟩
abbrev cX3_isFit : ByteArray := prog_1_method_53_code
def yX3_isFit : MethodName := ⟨RX3, "isFit", "(LQuizspool$Plan;I)Z"⟩
abbrev cX3_letGoAll : ByteArray := prog_1_method_54_code
def yX3_letGoAll : MethodName := ⟨RX3, "letGoAll", "(LQuizspool$Plan;)V"⟩
abbrev cX3_close : ByteArray := prog_1_method_55_code
def yX3_close : MethodName := ⟨RX3, "close", "(LQuizspool$Plan;)V"⟩
abbrev cX3_fill : ByteArray := prog_1_method_56_code
def yX3_fill : MethodName := ⟨RX3, "fill", "(LQuizspool$Plan;)V"⟩
abbrev cX3_isCandidate : ByteArray := prog_1_method_57_code
def yX3_isCandidate : MethodName := ⟨RX3, "isCandidate", "(LQuizspool$Question;CLjava/util/ArrayList;)Z"⟩
abbrev cX3_drawQuestions : ByteArray := prog_1_method_58_code
def yX3_drawQuestions : MethodName := ⟨RX3, "drawQuestions", "(IIII)Z"⟩
abbrev cX3_gatherCandidates : ByteArray := prog_1_method_59_code
def yX3_gatherCandidates : MethodName := ⟨RX3, "gatherCandidates", "(C)V"⟩
abbrev cX3_spool : ByteArray := prog_1_method_60_code
def yX3_spool : MethodName := ⟨RX3, "spool", "(LQuizspool$Sheet;)I"⟩
abbrev cX3_firstWaiting : ByteArray := prog_1_method_61_code
def yX3_firstWaiting : MethodName := ⟨RX3, "firstWaiting", "()I"⟩
abbrev cX3_writeText : ByteArray := prog_1_method_62_code
def yX3_writeText : MethodName := ⟨RX3, "writeText", "(ILQuizspool$Sheet;)V"⟩
abbrev cX3_areLevelsAsAnswered : ByteArray := prog_1_method_63_code
def yX3_areLevelsAsAnswered : MethodName := ⟨RX3, "areLevelsAsAnswered", "()Z"⟩
abbrev cX3_isNoneHeldTwice : ByteArray := prog_1_method_64_code
def yX3_isNoneHeldTwice : MethodName := ⟨RX3, "isNoneHeldTwice", "()Z"⟩
abbrev cX3_countHolder : ByteArray := prog_1_method_65_code
def yX3_countHolder : MethodName := ⟨RX3, "countHolder", "(Ljava/util/ArrayList;)V"⟩
abbrev cX3_arePlansKept : ByteArray := prog_1_method_66_code
def yX3_arePlansKept : MethodName := ⟨RX3, "arePlansKept", "()Z"⟩
def RX4 : String := "QuizspoolModel"
def TX4 : u_T := fun k => match k with
  | 0 => ("QuizspoolModel", "row", "[I", true)
  | 1 => ("QuizspoolModel", "words", "[I", true)
  | 2 => ("QuizspoolModel", "sizes", "[I", true)
  | 3 => ("QuizspoolModel", "levels", "[I", true)
  | 4 => ("QuizspoolModel", "groups", "[I", true)
  | 5 => ("QuizspoolModel", "printed", "[I", true)
  | 6 => ("QuizspoolModel", "hits", "[I", true)
  | 7 => ("QuizspoolModel", "ranks", "[I", true)
  | 8 => ("QuizspoolModel", "planWeeks", "[I", true)
  | 9 => ("QuizspoolModel", "wanted", "[I", true)
  | 10 => ("QuizspoolModel", "holds", "[I", true)
  | 11 => ("QuizspoolModel", "heldCounts", "[I", true)
  | 12 => ("QuizspoolModel", "planKinds", "[C", true)
  | 13 => ("QuizspoolModel", "states", "[C", true)
  | 14 => ("QuizspoolModel", "areDropped", "[Z", true)
  | 15 => ("QuizspoolModel", "areAnswered", "[Z", true)
  | 16 => ("QuizspoolModel", "onSheet", "[I", true)
  | 17 => ("QuizspoolModel", "sheetSizes", "[I", true)
  | 18 => ("QuizspoolModel", "text", "[C", true)
  | 19 => ("QuizspoolModel", "typed", "I", false)
  | 20 => ("QuizspoolModel", "questions", "I", false)
  | 21 => ("QuizspoolModel", "hitCount", "I", false)
  | 22 => ("QuizspoolModel", "plans", "I", false)
  | 23 => ("QuizspoolModel", "sheets", "I", false)
  | 24 => ("QuizspoolModel", "week", "I", false)
  | 25 => ("QuizspoolModel", "answers", "I", false)
  | 26 => ("QuizspoolModel", "right", "I", false)
  | 27 => ("QuizspoolModel", "thrown", "I", false)
  | 28 => ("QuizspoolModel", "textSize", "I", false)
  | 29 => ("QuizspoolModel", "isJammed", "Z", false)
  | _ => ("QuizspoolModel", "trial", "[I", true)
def tyX4 : Nat → FieldType := fun k => match k with
  | 0 => .array .int
  | 1 => .array .int
  | 2 => .array .int
  | 3 => .array .int
  | 4 => .array .int
  | 5 => .array .int
  | 6 => .array .int
  | 7 => .array .int
  | 8 => .array .int
  | 9 => .array .int
  | 10 => .array .int
  | 11 => .array .int
  | 12 => .array .char
  | 13 => .array .char
  | 14 => .array .boolean
  | 15 => .array .boolean
  | 16 => .array .int
  | 17 => .array .int
  | 18 => .array .char
  | 19 => .int
  | 20 => .int
  | 21 => .int
  | 22 => .int
  | 23 => .int
  | 24 => .int
  | 25 => .int
  | 26 => .int
  | 27 => .int
  | 28 => .int
  | 29 => .boolean
  | _ => .array .int
abbrev wsX40 : List Cond := u_ws RX4 TX4 31
theorem nmX4 : ∀ a, a < 31 → ∀ b, b < 31 → a ≠ b → (TX4 a).2.1 ≠ (TX4 b).2.1 := by decide +kernel
theorem tyX4_ok : ∀ k, k < 31 → parseFieldDescriptor (TX4 k).2.2.1 = some (tyX4 k) := by decide +kernel
abbrev cX4_init : ByteArray := prog_6_method_1_code
def yX4_init : MethodName := ⟨RX4, "<init>", "()V"⟩
abbrev cX4_thrown : ByteArray := prog_6_method_2_code
def yX4_thrown : MethodName := ⟨RX4, "thrown", "()I"⟩
abbrev cX4_in : ByteArray := prog_6_method_3_code
def yX4_in : MethodName := ⟨RX4, "in", "(III)Z"⟩
abbrev cX4_plain : ByteArray := prog_6_method_4_code
def yX4_plain : MethodName := ⟨RX4, "plain", "(I)I"⟩
abbrev cX4_isQuestion : ByteArray := prog_6_method_5_code
def yX4_isQuestion : MethodName := ⟨RX4, "isQuestion", "(I)Z"⟩
abbrev cX4_isPlan : ByteArray := prog_6_method_6_code
def yX4_isPlan : MethodName := ⟨RX4, "isPlan", "(I)Z"⟩
abbrev cX4_isSheet : ByteArray := prog_6_method_7_code
def yX4_isSheet : MethodName := ⟨RX4, "isSheet", "(I)Z"⟩
abbrev cX4_type : ByteArray := prog_6_method_8_code
def yX4_type : MethodName := ⟨RX4, "type", "(I)I"⟩
abbrev cX4_erase : ByteArray := prog_6_method_9_code
def yX4_erase : MethodName := ⟨RX4, "erase", "()I"⟩
abbrev cX4_add : ByteArray := prog_6_method_10_code
def yX4_add : MethodName := ⟨RX4, "add", "(I)I"⟩
abbrev cX4_twin : ByteArray := prog_6_method_11_code
def yX4_twin : MethodName := ⟨RX4, "twin", "(II)I"⟩
abbrev cX4_areTwin : ByteArray := prog_6_method_12_code
def yX4_areTwin : MethodName := ⟨RX4, "areTwin", "(II)Z"⟩
abbrev cX4_areTwins : ByteArray := prog_6_method_13_code
def yX4_areTwins : MethodName := ⟨RX4, "areTwins", "(II)Z"⟩
abbrev cX4_wrongQuestion : ByteArray := prog_6_method_14_code
def yX4_wrongQuestion : MethodName := ⟨RX4, "wrongQuestion", "(I)I"⟩
abbrev cX4_wordAt : ByteArray := prog_6_method_15_code
def yX4_wordAt : MethodName := ⟨RX4, "wordAt", "(II)I"⟩
abbrev cX4_level : ByteArray := prog_6_method_16_code
def yX4_level : MethodName := ⟨RX4, "level", "(I)I"⟩
abbrev cX4_levelAnew : ByteArray := prog_6_method_17_code
def yX4_levelAnew : MethodName := ⟨RX4, "levelAnew", "(I)I"⟩
abbrev cX4_kindOf : ByteArray := prog_6_method_18_code
def yX4_kindOf : MethodName := ⟨RX4, "kindOf", "(I)C"⟩
abbrev cX4_kind : ByteArray := prog_6_method_19_code
def yX4_kind : MethodName := ⟨RX4, "kind", "(I)C"⟩
abbrev cX4_isTyped : ByteArray := prog_6_method_20_code
def yX4_isTyped : MethodName := ⟨RX4, "isTyped", "(I)Z"⟩
abbrev cX4_hasAhead : ByteArray := prog_6_method_21_code
def yX4_hasAhead : MethodName := ⟨RX4, "hasAhead", "(II)Z"⟩
abbrev cX4_rankOf : ByteArray := prog_6_method_22_code
def yX4_rankOf : MethodName := ⟨RX4, "rankOf", "(I)I"⟩
abbrev cX4_search : ByteArray := prog_6_method_23_code
def yX4_search : MethodName := ⟨RX4, "search", "()I"⟩
abbrev cX4_hitAt : ByteArray := prog_6_method_24_code
def yX4_hitAt : MethodName := ⟨RX4, "hitAt", "(I)I"⟩
abbrev cX4_rankAt : ByteArray := prog_6_method_25_code
def yX4_rankAt : MethodName := ⟨RX4, "rankAt", "(I)I"⟩
abbrev cX4_week : ByteArray := prog_6_method_26_code
def yX4_week : MethodName := ⟨RX4, "week", "()I"⟩
abbrev cX4_nextWeek : ByteArray := prog_6_method_27_code
def yX4_nextWeek : MethodName := ⟨RX4, "nextWeek", "()I"⟩
abbrev cX4_isKind : ByteArray := prog_6_method_28_code
def yX4_isKind : MethodName := ⟨RX4, "isKind", "(C)Z"⟩
abbrev cX4_plan : ByteArray := prog_6_method_29_code
def yX4_plan : MethodName := ⟨RX4, "plan", "(ICI)I"⟩
abbrev cX4_isInForce : ByteArray := prog_6_method_30_code
def yX4_isInForce : MethodName := ⟨RX4, "isInForce", "(I)Z"⟩
abbrev cX4_heldBy : ByteArray := prog_6_method_31_code
def yX4_heldBy : MethodName := ⟨RX4, "heldBy", "(I)I"⟩
abbrev cX4_drop : ByteArray := prog_6_method_32_code
def yX4_drop : MethodName := ⟨RX4, "drop", "(I)I"⟩
abbrev cX4_wrongPlan : ByteArray := prog_6_method_33_code
def yX4_wrongPlan : MethodName := ⟨RX4, "wrongPlan", "(I)I"⟩
abbrev cX4_held : ByteArray := prog_6_method_34_code
def yX4_held : MethodName := ⟨RX4, "held", "(I)I"⟩
abbrev cX4_heldAt : ByteArray := prog_6_method_35_code
def yX4_heldAt : MethodName := ⟨RX4, "heldAt", "(II)I"⟩
abbrev cX4_lacks : ByteArray := prog_6_method_36_code
def yX4_lacks : MethodName := ⟨RX4, "lacks", "(I)I"⟩
abbrev cX4_isHeld : ByteArray := prog_6_method_37_code
def yX4_isHeld : MethodName := ⟨RX4, "isHeld", "(I)Z"⟩
abbrev cX4_hasOn : ByteArray := prog_6_method_38_code
def yX4_hasOn : MethodName := ⟨RX4, "hasOn", "(II)Z"⟩
abbrev cX4_isFreeNow : ByteArray := prog_6_method_39_code
def yX4_isFreeNow : MethodName := ⟨RX4, "isFreeNow", "(I)Z"⟩
abbrev cX4_isFree : ByteArray := prog_6_method_40_code
def yX4_isFree : MethodName := ⟨RX4, "isFree", "(I)Z"⟩
abbrev cX4_hasTwinIn : ByteArray := prog_6_method_41_code
def yX4_hasTwinIn : MethodName := ⟨RX4, "hasTwinIn", "(III)Z"⟩
abbrev cX4_settle : ByteArray := prog_6_method_42_code
def yX4_settle : MethodName := ⟨RX4, "settle", "()V"⟩
abbrev cX4_isCandidate : ByteArray := prog_6_method_43_code
def yX4_isCandidate : MethodName := ⟨RX4, "isCandidate", "(ICI)Z"⟩
abbrev cX4_candidate : ByteArray := prog_6_method_44_code
def yX4_candidate : MethodName := ⟨RX4, "candidate", "(ICI)I"⟩
abbrev cX4_quiz : ByteArray := prog_6_method_45_code
def yX4_quiz : MethodName := ⟨RX4, "quiz", "(IIII)I"⟩
abbrev cX4_isTrial : ByteArray := prog_6_method_46_code
def yX4_isTrial : MethodName := ⟨RX4, "isTrial", "(ICI)Z"⟩
abbrev cX4_canDraw : ByteArray := prog_6_method_47_code
def yX4_canDraw : MethodName := ⟨RX4, "canDraw", "(IIII)Z"⟩
abbrev cX4_made : ByteArray := prog_6_method_48_code
def yX4_made : MethodName := ⟨RX4, "made", "(I)V"⟩
abbrev cX4_quizOf : ByteArray := prog_6_method_49_code
def yX4_quizOf : MethodName := ⟨RX4, "quizOf", "(I)I"⟩
abbrev cX4_wrongSheet : ByteArray := prog_6_method_50_code
def yX4_wrongSheet : MethodName := ⟨RX4, "wrongSheet", "(I)I"⟩
abbrev cX4_size : ByteArray := prog_6_method_51_code
def yX4_size : MethodName := ⟨RX4, "size", "(I)I"⟩
abbrev cX4_questionAt : ByteArray := prog_6_method_52_code
def yX4_questionAt : MethodName := ⟨RX4, "questionAt", "(II)I"⟩
abbrev cX4_stateOf : ByteArray := prog_6_method_53_code
def yX4_stateOf : MethodName := ⟨RX4, "stateOf", "(I)C"⟩
abbrev cX4_waiting : ByteArray := prog_6_method_54_code
def yX4_waiting : MethodName := ⟨RX4, "waiting", "()I"⟩
abbrev cX4_setJam : ByteArray := prog_6_method_55_code
def yX4_setJam : MethodName := ⟨RX4, "setJam", "(Z)Z"⟩
abbrev cX4_print : ByteArray := prog_6_method_56_code
def yX4_print : MethodName := ⟨RX4, "print", "()I"⟩
abbrev cX4_cancel : ByteArray := prog_6_method_57_code
def yX4_cancel : MethodName := ⟨RX4, "cancel", "(I)I"⟩
abbrev cX4_answer : ByteArray := prog_6_method_58_code
def yX4_answer : MethodName := ⟨RX4, "answer", "(IIZ)I"⟩
abbrev cX4_put : ByteArray := prog_6_method_59_code
def yX4_put : MethodName := ⟨RX4, "put", "(C)V"⟩
abbrev cX4_putNumber : ByteArray := prog_6_method_60_code
def yX4_putNumber : MethodName := ⟨RX4, "putNumber", "(I)V"⟩
abbrev cX4_textOf : ByteArray := prog_6_method_61_code
def yX4_textOf : MethodName := ⟨RX4, "textOf", "(II)C"⟩
abbrev cX4_answers : ByteArray := prog_6_method_62_code
def yX4_answers : MethodName := ⟨RX4, "answers", "()I"⟩
abbrev cX4_allLevels : ByteArray := prog_6_method_63_code
def yX4_allLevels : MethodName := ⟨RX4, "allLevels", "()J"⟩
abbrev cX4_rightShare : ByteArray := prog_6_method_64_code
def yX4_rightShare : MethodName := ⟨RX4, "rightShare", "()F"⟩
abbrev cX4_meanLevel : ByteArray := prog_6_method_65_code
def yX4_meanLevel : MethodName := ⟨RX4, "meanLevel", "()D"⟩
abbrev cX4_isSound : ByteArray := prog_6_method_66_code
def yX4_isSound : MethodName := ⟨RX4, "isSound", "()Z"⟩
def RJx145de : String := "java/io/Serializable"
def TJx145de : u_T := fun k => match k with
  | _ => ("", "", "", false)
def tyJx145de : Nat → FieldType := fun k => match k with
  | _ => .int
abbrev wsJx145de0 : List Cond := u_ws RJx145de TJx145de 0
theorem nmJx145de : ∀ a, a < 0 → ∀ b, b < 0 → a ≠ b → (TJx145de a).2.1 ≠ (TJx145de b).2.1 := by decide +kernel
theorem tyJx145de_ok : ∀ k, k < 0 → parseFieldDescriptor (TJx145de k).2.2.1 = some (tyJx145de k) := by decide +kernel
def RJ5 : String := "java/lang/AbstractStringBuilder"
def TJ5 : u_T := fun k => match k with
  | _ => ("", "", "", false)
def tyJ5 : Nat → FieldType := fun k => match k with
  | _ => .int
abbrev wsJ50 : List Cond := u_ws RJ5 TJ5 0
theorem nmJ5 : ∀ a, a < 0 → ∀ b, b < 0 → a ≠ b → (TJ5 a).2.1 ≠ (TJ5 b).2.1 := by decide +kernel
theorem tyJ5_ok : ∀ k, k < 0 → parseFieldDescriptor (TJ5 k).2.2.1 = some (tyJ5 k) := by decide +kernel
abbrev cJ5_init_d00df : ByteArray := prog_8_method_2_code
def yJ5_init_d00df : MethodName := ⟨RJ5, "<init>", "(I)V"⟩
abbrev cJ5_length_8abf5 : ByteArray := prog_8_method_6_code
def yJ5_length_8abf5 : MethodName := ⟨RJ5, "length", "()I"⟩
abbrev cJ5_ensureCapacityInternal_d00df : ByteArray := prog_8_method_9_code
def yJ5_ensureCapacityInternal_d00df : MethodName := ⟨RJ5, "ensureCapacityInternal", "(I)V"⟩
abbrev cJ5_newCapacity_0f7a4 : ByteArray := prog_8_method_10_code
def yJ5_newCapacity_0f7a4 : MethodName := ⟨RJ5, "newCapacity", "(I)I"⟩
abbrev cJ5_inflate_da8c8 : ByteArray := prog_8_method_11_code
def yJ5_inflate_da8c8 : MethodName := ⟨RJ5, "inflate", "()V"⟩
abbrev cJ5_setLength_d00df : ByteArray := prog_8_method_13_code
def yJ5_setLength_d00df : MethodName := ⟨RJ5, "setLength", "(I)V"⟩
abbrev cJ5_charAt_5068e : ByteArray := prog_8_method_14_code
def yJ5_charAt_5068e : MethodName := ⟨RJ5, "charAt", "(I)C"⟩
abbrev cJ5_append_cf1ce : ByteArray := prog_8_method_22_code
def yJ5_append_cf1ce : MethodName := ⟨RJ5, "append", "(Ljava/lang/String;)Ljava/lang/AbstractStringBuilder;"⟩
abbrev cJ5_appendNull_278bc : ByteArray := prog_8_method_26_code
def yJ5_appendNull_278bc : MethodName := ⟨RJ5, "appendNull", "()Ljava/lang/AbstractStringBuilder;"⟩
abbrev cJ5_append_3fe6f : ByteArray := prog_8_method_31_code
def yJ5_append_3fe6f : MethodName := ⟨RJ5, "append", "(C)Ljava/lang/AbstractStringBuilder;"⟩
abbrev cJ5_append_c97b9 : ByteArray := prog_8_method_32_code
def yJ5_append_c97b9 : MethodName := ⟨RJ5, "append", "(I)Ljava/lang/AbstractStringBuilder;"⟩
abbrev cJ5_getValue_6d5f1 : ByteArray := prog_8_method_64_code
def yJ5_getValue_6d5f1 : MethodName := ⟨RJ5, "getValue", "()[B"⟩
abbrev cJ5_isLatin1_aae02 : ByteArray := prog_8_method_68_code
def yJ5_isLatin1_aae02 : MethodName := ⟨RJ5, "isLatin1", "()Z"⟩
abbrev cJ5_inflateIfNeededFor_a7421 : ByteArray := prog_8_method_71_code
def yJ5_inflateIfNeededFor_a7421 : MethodName := ⟨RJ5, "inflateIfNeededFor", "(Ljava/lang/String;)V"⟩
abbrev cJ5_putStringAt_47b60 : ByteArray := prog_8_method_73_code
def yJ5_putStringAt_47b60 : MethodName := ⟨RJ5, "putStringAt", "(ILjava/lang/String;)V"⟩
def RJx2cfe8 : String := "java/lang/Appendable"
def TJx2cfe8 : u_T := fun k => match k with
  | _ => ("", "", "", false)
def tyJx2cfe8 : Nat → FieldType := fun k => match k with
  | _ => .int
abbrev wsJx2cfe80 : List Cond := u_ws RJx2cfe8 TJx2cfe8 0
theorem nmJx2cfe8 : ∀ a, a < 0 → ∀ b, b < 0 → a ≠ b → (TJx2cfe8 a).2.1 ≠ (TJx2cfe8 b).2.1 := by decide +kernel
theorem tyJx2cfe8_ok : ∀ k, k < 0 → parseFieldDescriptor (TJx2cfe8 k).2.2.1 = some (tyJx2cfe8 k) := by decide +kernel
def RJx00060 : String := "java/lang/ArrayIndexOutOfBoundsException"
def TJx00060 : u_T := fun k => match k with
  | 0 => ("java/lang/Throwable", "backtrace", "Ljava/lang/Object;", false)
  | 1 => ("java/lang/Throwable", "detailMessage", "Ljava/lang/String;", false)
  | 2 => ("java/lang/Throwable", "cause", "Ljava/lang/Throwable;", false)
  | 3 => ("java/lang/Throwable", "stackTrace", "[Ljava/lang/StackTraceElement;", false)
  | 4 => ("java/lang/Throwable", "depth", "I", false)
  | _ => ("java/lang/Throwable", "suppressedExceptions", "Ljava/util/List;", false)
def tyJx00060 : Nat → FieldType := fun k => match k with
  | 0 => .object "java/lang/Object"
  | 1 => .object "java/lang/String"
  | 2 => .object "java/lang/Throwable"
  | 3 => .array (.object "java/lang/StackTraceElement")
  | 4 => .int
  | _ => .object "java/util/List"
abbrev wsJx000600 : List Cond := u_ws RJx00060 TJx00060 6
theorem nmJx00060 : ∀ a, a < 6 → ∀ b, b < 6 → a ≠ b → (TJx00060 a).2.1 ≠ (TJx00060 b).2.1 := by decide +kernel
theorem tyJx00060_ok : ∀ k, k < 6 → parseFieldDescriptor (TJx00060 k).2.2.1 = some (tyJx00060 k) := by decide +kernel
abbrev cJx00060_init_a7421 : ByteArray := prog_11_method_2_code
def yJx00060_init_a7421 : MethodName := ⟨RJx00060, "<init>", "(Ljava/lang/String;)V"⟩
abbrev cJx00060_init_d00df : ByteArray := prog_11_method_3_code
def yJx00060_init_d00df : MethodName := ⟨RJx00060, "<init>", "(I)V"⟩
def RJx9f9b0 : String := "java/lang/CharSequence"
def TJx9f9b0 : u_T := fun k => match k with
  | _ => ("", "", "", false)
def tyJx9f9b0 : Nat → FieldType := fun k => match k with
  | _ => .int
abbrev wsJx9f9b00 : List Cond := u_ws RJx9f9b0 TJx9f9b0 0
theorem nmJx9f9b0 : ∀ a, a < 0 → ∀ b, b < 0 → a ≠ b → (TJx9f9b0 a).2.1 ≠ (TJx9f9b0 b).2.1 := by decide +kernel
theorem tyJx9f9b0_ok : ∀ k, k < 0 → parseFieldDescriptor (TJx9f9b0 k).2.2.1 = some (tyJx9f9b0 k) := by decide +kernel
def RJx8e188 : String := "java/lang/Cloneable"
def TJx8e188 : u_T := fun k => match k with
  | _ => ("", "", "", false)
def tyJx8e188 : Nat → FieldType := fun k => match k with
  | _ => .int
abbrev wsJx8e1880 : List Cond := u_ws RJx8e188 TJx8e188 0
theorem nmJx8e188 : ∀ a, a < 0 → ∀ b, b < 0 → a ≠ b → (TJx8e188 a).2.1 ≠ (TJx8e188 b).2.1 := by decide +kernel
theorem tyJx8e188_ok : ∀ k, k < 0 → parseFieldDescriptor (TJx8e188 k).2.2.1 = some (tyJx8e188 k) := by decide +kernel
def RJxb160c : String := "java/lang/Comparable"
def TJxb160c : u_T := fun k => match k with
  | _ => ("", "", "", false)
def tyJxb160c : Nat → FieldType := fun k => match k with
  | _ => .int
abbrev wsJxb160c0 : List Cond := u_ws RJxb160c TJxb160c 0
theorem nmJxb160c : ∀ a, a < 0 → ∀ b, b < 0 → a ≠ b → (TJxb160c a).2.1 ≠ (TJxb160c b).2.1 := by decide +kernel
theorem tyJxb160c_ok : ∀ k, k < 0 → parseFieldDescriptor (TJxb160c k).2.2.1 = some (tyJxb160c k) := by decide +kernel
def RJ6 : String := "java/lang/Integer"
def TJ6 : u_T := fun k => match k with
  | _ => ("", "", "", false)
def tyJ6 : Nat → FieldType := fun k => match k with
  | _ => .int
abbrev wsJ60 : List Cond := u_ws RJ6 TJ6 0
theorem nmJ6 : ∀ a, a < 0 → ∀ b, b < 0 → a ≠ b → (TJ6 a).2.1 ≠ (TJ6 b).2.1 := by decide +kernel
theorem tyJ6_ok : ∀ k, k < 0 → parseFieldDescriptor (TJ6 k).2.2.1 = some (tyJ6 k) := by decide +kernel
abbrev cJ6_getChars_ba4f3 : ByteArray := prog_19_method_12_code
def yJ6_getChars_ba4f3 : MethodName := ⟨RJ6, "getChars", "(II[B)I"⟩
abbrev cJ6_stringSize_0f7a4 : ByteArray := prog_19_method_13_code
def yJ6_stringSize_0f7a4 : MethodName := ⟨RJ6, "stringSize", "(I)I"⟩
def RJxab1ab : String := "java/lang/Iterable"
def TJxab1ab : u_T := fun k => match k with
  | _ => ("", "", "", false)
def tyJxab1ab : Nat → FieldType := fun k => match k with
  | _ => .int
abbrev wsJxab1ab0 : List Cond := u_ws RJxab1ab TJxab1ab 0
theorem nmJxab1ab : ∀ a, a < 0 → ∀ b, b < 0 → a ≠ b → (TJxab1ab a).2.1 ≠ (TJxab1ab b).2.1 := by decide +kernel
theorem tyJxab1ab_ok : ∀ k, k < 0 → parseFieldDescriptor (TJxab1ab k).2.2.1 = some (tyJxab1ab k) := by decide +kernel
def RJ9 : String := "java/lang/Math"
def TJ9 : u_T := fun k => match k with
  | _ => ("", "", "", false)
def tyJ9 : Nat → FieldType := fun k => match k with
  | _ => .int
abbrev wsJ90 : List Cond := u_ws RJ9 TJ9 0
theorem nmJ9 : ∀ a, a < 0 → ∀ b, b < 0 → a ≠ b → (TJ9 a).2.1 ≠ (TJ9 b).2.1 := by decide +kernel
theorem tyJ9_ok : ∀ k, k < 0 → parseFieldDescriptor (TJ9 k).2.2.1 = some (tyJ9 k) := by decide +kernel
abbrev cJ9_floorMod_7cf53 : ByteArray := prog_21_method_50_code
def yJ9_floorMod_7cf53 : MethodName := ⟨RJ9, "floorMod", "(II)I"⟩
abbrev cJ9_max_7cf53 : ByteArray := prog_21_method_65_code
def yJ9_max_7cf53 : MethodName := ⟨RJ9, "max", "(II)I"⟩
abbrev cJ9_min_7cf53 : ByteArray := prog_21_method_69_code
def yJ9_min_7cf53 : MethodName := ⟨RJ9, "min", "(II)I"⟩
def RJxd2413 : String := "java/lang/Number"
def TJxd2413 : u_T := fun k => match k with
  | _ => ("", "", "", false)
def tyJxd2413 : Nat → FieldType := fun k => match k with
  | _ => .int
abbrev wsJxd24130 : List Cond := u_ws RJxd2413 TJxd2413 0
theorem nmJxd2413 : ∀ a, a < 0 → ∀ b, b < 0 → a ≠ b → (TJxd2413 a).2.1 ≠ (TJxd2413 b).2.1 := by decide +kernel
theorem tyJxd2413_ok : ∀ k, k < 0 → parseFieldDescriptor (TJxd2413 k).2.2.1 = some (tyJxd2413 k) := by decide +kernel
def RJ0 : String := "java/lang/String"
def TJ0 : u_T := fun k => match k with
  | 0 => ("java/lang/String", "value", "[B", true)
  | 1 => ("java/lang/String", "coder", "B", true)
  | 2 => ("java/lang/String", "hash", "I", false)
  | _ => ("java/lang/String", "hashIsZero", "Z", false)
def tyJ0 : Nat → FieldType := fun k => match k with
  | 0 => .array .byte
  | 1 => .byte
  | 2 => .int
  | _ => .boolean
abbrev wsJ00 : List Cond := u_ws RJ0 TJ0 4
theorem nmJ0 : ∀ a, a < 4 → ∀ b, b < 4 → a ≠ b → (TJ0 a).2.1 ≠ (TJ0 b).2.1 := by decide +kernel
theorem tyJ0_ok : ∀ k, k < 4 → parseFieldDescriptor (TJ0 k).2.2.1 = some (tyJ0 k) := by decide +kernel
abbrev cJ0_init_81219 : ByteArray := prog_24_method_53_code
def yJ0_init_81219 : MethodName := ⟨RJ0, "<init>", "(Ljava/lang/StringBuilder;)V"⟩
abbrev cJ0_length_8abf5 : ByteArray := prog_24_method_54_code
def yJ0_length_8abf5 : MethodName := ⟨RJ0, "length", "()I"⟩
abbrev cJ0_getBytes_840e7 : ByteArray := prog_24_method_147_code
def yJ0_getBytes_840e7 : MethodName := ⟨RJ0, "getBytes", "([BIB)V"⟩
abbrev cJ0_init_db425 : ByteArray := prog_24_method_150_code
def yJ0_init_db425 : MethodName := ⟨RJ0, "<init>", "(Ljava/lang/AbstractStringBuilder;Ljava/lang/Void;)V"⟩
abbrev cJ0_coder_7d493 : ByteArray := prog_24_method_152_code
def yJ0_coder_7d493 : MethodName := ⟨RJ0, "coder", "()B"⟩
abbrev cJ0_checkIndex_df160 : ByteArray := prog_24_method_155_code
def yJ0_checkIndex_df160 : MethodName := ⟨RJ0, "checkIndex", "(II)V"⟩
abbrev cJ0_checkBoundsOffCount_cabcc : ByteArray := prog_24_method_157_code
def yJ0_checkBoundsOffCount_cabcc : MethodName := ⟨RJ0, "checkBoundsOffCount", "(III)I"⟩
abbrev cJ0_checkBoundsBeginEnd_23922 : ByteArray := prog_24_method_158_code
def yJ0_checkBoundsBeginEnd_23922 : MethodName := ⟨RJ0, "checkBoundsBeginEnd", "(III)V"⟩
def RJ4 : String := "java/lang/StringBuilder"
def TJ4 : u_T := fun k => match k with
  | 0 => ("java/lang/AbstractStringBuilder", "value", "[B", false)
  | 1 => ("java/lang/AbstractStringBuilder", "coder", "B", false)
  | 2 => ("java/lang/AbstractStringBuilder", "maybeLatin1", "Z", false)
  | _ => ("java/lang/AbstractStringBuilder", "count", "I", false)
def tyJ4 : Nat → FieldType := fun k => match k with
  | 0 => .array .byte
  | 1 => .byte
  | 2 => .boolean
  | _ => .int
abbrev wsJ40 : List Cond := u_ws RJ4 TJ4 4
theorem nmJ4 : ∀ a, a < 4 → ∀ b, b < 4 → a ≠ b → (TJ4 a).2.1 ≠ (TJ4 b).2.1 := by decide +kernel
theorem tyJ4_ok : ∀ k, k < 4 → parseFieldDescriptor (TJ4 k).2.2.1 = some (tyJ4 k) := by decide +kernel
abbrev cJ4_init_da8c8 : ByteArray := prog_25_method_1_code
def yJ4_init_da8c8 : MethodName := ⟨RJ4, "<init>", "()V"⟩
abbrev cJ4_append_15ec4 : ByteArray := prog_25_method_7_code
def yJ4_append_15ec4 : MethodName := ⟨RJ4, "append", "(Ljava/lang/String;)Ljava/lang/StringBuilder;"⟩
abbrev cJ4_append_cf468 : ByteArray := prog_25_method_14_code
def yJ4_append_cf468 : MethodName := ⟨RJ4, "append", "(C)Ljava/lang/StringBuilder;"⟩
abbrev cJ4_append_bf812 : ByteArray := prog_25_method_15_code
def yJ4_append_bf812 : MethodName := ⟨RJ4, "append", "(I)Ljava/lang/StringBuilder;"⟩
abbrev cJ4_toString_0e30d : ByteArray := prog_25_method_42_code
def yJ4_toString_0e30d : MethodName := ⟨RJ4, "toString", "()Ljava/lang/String;"⟩
abbrev cJ4_charAt_5068e : ByteArray := prog_25_method_88_code
def yJ4_charAt_5068e : MethodName := ⟨RJ4, "charAt", "(I)C"⟩
abbrev cJ4_setLength_d00df : ByteArray := prog_25_method_89_code
def yJ4_setLength_d00df : MethodName := ⟨RJ4, "setLength", "(I)V"⟩
abbrev cJ4_length_8abf5 : ByteArray := prog_25_method_93_code
def yJ4_length_8abf5 : MethodName := ⟨RJ4, "length", "()I"⟩
def RJx7c733 : String := "java/lang/StringIndexOutOfBoundsException"
def TJx7c733 : u_T := fun k => match k with
  | 0 => ("java/lang/Throwable", "backtrace", "Ljava/lang/Object;", false)
  | 1 => ("java/lang/Throwable", "detailMessage", "Ljava/lang/String;", false)
  | 2 => ("java/lang/Throwable", "cause", "Ljava/lang/Throwable;", false)
  | 3 => ("java/lang/Throwable", "stackTrace", "[Ljava/lang/StackTraceElement;", false)
  | 4 => ("java/lang/Throwable", "depth", "I", false)
  | _ => ("java/lang/Throwable", "suppressedExceptions", "Ljava/util/List;", false)
def tyJx7c733 : Nat → FieldType := fun k => match k with
  | 0 => .object "java/lang/Object"
  | 1 => .object "java/lang/String"
  | 2 => .object "java/lang/Throwable"
  | 3 => .array (.object "java/lang/StackTraceElement")
  | 4 => .int
  | _ => .object "java/util/List"
abbrev wsJx7c7330 : List Cond := u_ws RJx7c733 TJx7c733 6
theorem nmJx7c733 : ∀ a, a < 6 → ∀ b, b < 6 → a ≠ b → (TJx7c733 a).2.1 ≠ (TJx7c733 b).2.1 := by decide +kernel
theorem tyJx7c733_ok : ∀ k, k < 6 → parseFieldDescriptor (TJx7c733 k).2.2.1 = some (tyJx7c733 k) := by decide +kernel
abbrev cJx7c733_init_d00df : ByteArray := prog_26_method_3_code
def yJx7c733_init_d00df : MethodName := ⟨RJx7c733, "<init>", "(I)V"⟩
def RJ1 : String := "java/lang/StringLatin1"
def TJ1 : u_T := fun k => match k with
  | _ => ("", "", "", false)
def tyJ1 : Nat → FieldType := fun k => match k with
  | _ => .int
abbrev wsJ10 : List Cond := u_ws RJ1 TJ1 0
theorem nmJ1 : ∀ a, a < 0 → ∀ b, b < 0 → a ≠ b → (TJ1 a).2.1 ≠ (TJ1 b).2.1 := by decide +kernel
theorem tyJ1_ok : ∀ k, k < 0 → parseFieldDescriptor (TJ1 k).2.2.1 = some (tyJ1 k) := by decide +kernel
abbrev cJ1_canEncode_fc78d : ByteArray := prog_27_method_3_code
def yJ1_canEncode_fc78d : MethodName := ⟨RJ1, "canEncode", "(C)Z"⟩
abbrev cJ1_fillNull_b72d1 : ByteArray := prog_27_method_48_code
def yJ1_fillNull_b72d1 : MethodName := ⟨RJ1, "fillNull", "([BII)V"⟩
abbrev cJ1_inflate_0e8fd : ByteArray := prog_27_method_50_code
def yJ1_inflate_0e8fd : MethodName := ⟨RJ1, "inflate", "([BI[BII)V"⟩
def RJ2 : String := "java/lang/StringUTF16"
def TJ2 : u_T := fun k => match k with
  | _ => ("", "", "", false)
def tyJ2 : Nat → FieldType := fun k => match k with
  | _ => .int
abbrev wsJ20 : List Cond := u_ws RJ2 TJ2 0
theorem nmJ2 : ∀ a, a < 0 → ∀ b, b < 0 → a ≠ b → (TJ2 a).2.1 ≠ (TJ2 b).2.1 := by decide +kernel
theorem tyJ2_ok : ∀ k, k < 0 → parseFieldDescriptor (TJ2 k).2.2.1 = some (tyJ2 k) := by decide +kernel
abbrev cJ2_newBytesFor_77867 : ByteArray := prog_28_method_2_code
def yJ2_newBytesFor_77867 : MethodName := ⟨RJ2, "newBytesFor", "(I)[B"⟩
abbrev cJ2_newBytesLength_0f7a4 : ByteArray := prog_28_method_3_code
def yJ2_newBytesLength_0f7a4 : MethodName := ⟨RJ2, "newBytesLength", "(I)I"⟩
abbrev cJ2_putChar_b72d1 : ByteArray := prog_28_method_4_code
def yJ2_putChar_b72d1 : MethodName := ⟨RJ2, "putChar", "([BII)V"⟩
abbrev cJ2_getChar_3b067 : ByteArray := prog_28_method_5_code
def yJ2_getChar_3b067 : MethodName := ⟨RJ2, "getChar", "([BI)C"⟩
abbrev cJ2_length_9d52b : ByteArray := prog_28_method_6_code
def yJ2_length_9d52b : MethodName := ⟨RJ2, "length", "([B)I"⟩
abbrev cJ2_coderFromArrayLen_85cad : ByteArray := prog_28_method_15_code
def yJ2_coderFromArrayLen_85cad : MethodName := ⟨RJ2, "coderFromArrayLen", "([BI)B"⟩
abbrev cJ2_compress_39247 : ByteArray := prog_28_method_17_code
def yJ2_compress_39247 : MethodName := ⟨RJ2, "compress", "([BII)[B"⟩
abbrev cJ2_compress_5af95 : ByteArray := prog_28_method_22_code
def yJ2_compress_5af95 : MethodName := ⟨RJ2, "compress", "([BI[BII)I"⟩
abbrev cJ2_fillNull_b72d1 : ByteArray := prog_28_method_70_code
def yJ2_fillNull_b72d1 : MethodName := ⟨RJ2, "fillNull", "([BII)V"⟩
abbrev cJ2_putCharSB_b72d1 : ByteArray := prog_28_method_71_code
def yJ2_putCharSB_b72d1 : MethodName := ⟨RJ2, "putCharSB", "([BII)V"⟩
abbrev cJ2_getChars_46870 : ByteArray := prog_28_method_77_code
def yJ2_getChars_46870 : MethodName := ⟨RJ2, "getChars", "(III[B)I"⟩
abbrev cJ2_putCharsAt_cd4e5 : ByteArray := prog_28_method_81_code
def yJ2_putCharsAt_cd4e5 : MethodName := ⟨RJ2, "putCharsAt", "([BICCCC)I"⟩
abbrev cJ2_inflate_0e8fd : ByteArray := prog_28_method_86_code
def yJ2_inflate_0e8fd : MethodName := ⟨RJ2, "inflate", "([BI[BII)V"⟩
abbrev cJ2_getChars_ba4f3 : ByteArray := prog_28_method_89_code
def yJ2_getChars_ba4f3 : MethodName := ⟨RJ2, "getChars", "(II[B)I"⟩
abbrev cJ2_checkIndex_2214a : ByteArray := prog_28_method_91_code
def yJ2_checkIndex_2214a : MethodName := ⟨RJ2, "checkIndex", "(I[B)V"⟩
abbrev cJ2_checkBoundsBeginEnd_d044e : ByteArray := prog_28_method_93_code
def yJ2_checkBoundsBeginEnd_d044e : MethodName := ⟨RJ2, "checkBoundsBeginEnd", "(II[B)V"⟩
abbrev cJ2_checkBoundsOffCount_d044e : ByteArray := prog_28_method_94_code
def yJ2_checkBoundsOffCount_d044e : MethodName := ⟨RJ2, "checkBoundsOffCount", "(II[B)V"⟩
def RJ10 : String := "java/lang/System"
def TJ10 : u_T := fun k => match k with
  | _ => ("", "", "", false)
def tyJ10 : Nat → FieldType := fun k => match k with
  | _ => .int
abbrev wsJ100 : List Cond := u_ws RJ10 TJ10 0
theorem nmJ10 : ∀ a, a < 0 → ∀ b, b < 0 → a ≠ b → (TJ10 a).2.1 ≠ (TJ10 b).2.1 := by decide +kernel
theorem tyJ10_ok : ∀ k, k < 0 → parseFieldDescriptor (TJ10 k).2.2.1 = some (tyJ10 k) := by decide +kernel
def RJxfd54e : String := "java/lang/constant/Constable"
def TJxfd54e : u_T := fun k => match k with
  | _ => ("", "", "", false)
def tyJxfd54e : Nat → FieldType := fun k => match k with
  | _ => .int
abbrev wsJxfd54e0 : List Cond := u_ws RJxfd54e TJxfd54e 0
theorem nmJxfd54e : ∀ a, a < 0 → ∀ b, b < 0 → a ≠ b → (TJxfd54e a).2.1 ≠ (TJxfd54e b).2.1 := by decide +kernel
theorem tyJxfd54e_ok : ∀ k, k < 0 → parseFieldDescriptor (TJxfd54e k).2.2.1 = some (tyJxfd54e k) := by decide +kernel
def RJx3cf43 : String := "java/lang/constant/ConstantDesc"
def TJx3cf43 : u_T := fun k => match k with
  | _ => ("", "", "", false)
def tyJx3cf43 : Nat → FieldType := fun k => match k with
  | _ => .int
abbrev wsJx3cf430 : List Cond := u_ws RJx3cf43 TJx3cf43 0
theorem nmJx3cf43 : ∀ a, a < 0 → ∀ b, b < 0 → a ≠ b → (TJx3cf43 a).2.1 ≠ (TJx3cf43 b).2.1 := by decide +kernel
theorem tyJx3cf43_ok : ∀ k, k < 0 → parseFieldDescriptor (TJx3cf43 k).2.2.1 = some (tyJx3cf43 k) := by decide +kernel
def RJxa1e45 : String := "java/util/AbstractCollection"
def TJxa1e45 : u_T := fun k => match k with
  | _ => ("", "", "", false)
def tyJxa1e45 : Nat → FieldType := fun k => match k with
  | _ => .int
abbrev wsJxa1e450 : List Cond := u_ws RJxa1e45 TJxa1e45 0
theorem nmJxa1e45 : ∀ a, a < 0 → ∀ b, b < 0 → a ≠ b → (TJxa1e45 a).2.1 ≠ (TJxa1e45 b).2.1 := by decide +kernel
theorem tyJxa1e45_ok : ∀ k, k < 0 → parseFieldDescriptor (TJxa1e45 k).2.2.1 = some (tyJxa1e45 k) := by decide +kernel
abbrev cJxa1e45_init_da8c8 : ByteArray := prog_34_method_1_code
def yJxa1e45_init_da8c8 : MethodName := ⟨RJxa1e45, "<init>", "()V"⟩
def RJxc12de : String := "java/util/AbstractList"
def TJxc12de : u_T := fun k => match k with
  | _ => ("", "", "", false)
def tyJxc12de : Nat → FieldType := fun k => match k with
  | _ => .int
abbrev wsJxc12de0 : List Cond := u_ws RJxc12de TJxc12de 0
theorem nmJxc12de : ∀ a, a < 0 → ∀ b, b < 0 → a ≠ b → (TJxc12de a).2.1 ≠ (TJxc12de b).2.1 := by decide +kernel
theorem tyJxc12de_ok : ∀ k, k < 0 → parseFieldDescriptor (TJxc12de k).2.2.1 = some (tyJxc12de k) := by decide +kernel
abbrev cJxc12de_init_da8c8 : ByteArray := prog_35_method_1_code
def yJxc12de_init_da8c8 : MethodName := ⟨RJxc12de, "<init>", "()V"⟩
def RJx4a65c : String := "java/util/ArrayList"
def TJx4a65c : u_T := fun k => match k with
  | 0 => ("java/util/AbstractList", "modCount", "I", false)
  | 1 => ("java/util/ArrayList", "elementData", "[Ljava/lang/Object;", false)
  | _ => ("java/util/ArrayList", "size", "I", false)
def tyJx4a65c : Nat → FieldType := fun k => match k with
  | 0 => .int
  | 1 => .array (.object "java/lang/Object")
  | _ => .int
abbrev wsJx4a65c0 : List Cond := u_ws RJx4a65c TJx4a65c 3
theorem nmJx4a65c : ∀ a, a < 3 → ∀ b, b < 3 → a ≠ b → (TJx4a65c a).2.1 ≠ (TJx4a65c b).2.1 := by decide +kernel
theorem tyJx4a65c_ok : ∀ k, k < 3 → parseFieldDescriptor (TJx4a65c k).2.2.1 = some (tyJx4a65c k) := by decide +kernel
abbrev cJx4a65c_init_da8c8 : ByteArray := prog_36_method_2_code
def yJx4a65c_init_da8c8 : MethodName := ⟨RJx4a65c, "<init>", "()V"⟩
abbrev cJx4a65c_grow_92f84 : ByteArray := prog_36_method_6_code
def yJx4a65c_grow_92f84 : MethodName := ⟨RJx4a65c, "grow", "(I)[Ljava/lang/Object;"⟩
abbrev cJx4a65c_grow_d5877 : ByteArray := prog_36_method_7_code
def yJx4a65c_grow_d5877 : MethodName := ⟨RJx4a65c, "grow", "()[Ljava/lang/Object;"⟩
abbrev cJx4a65c_size_8abf5 : ByteArray := prog_36_method_8_code
def yJx4a65c_size_8abf5 : MethodName := ⟨RJx4a65c, "size", "()I"⟩
abbrev cJx4a65c_isEmpty_aae02 : ByteArray := prog_36_method_9_code
def yJx4a65c_isEmpty_aae02 : MethodName := ⟨RJx4a65c, "isEmpty", "()Z"⟩
abbrev cJx4a65c_elementData_915e3 : ByteArray := prog_36_method_18_code
def yJx4a65c_elementData_915e3 : MethodName := ⟨RJx4a65c, "elementData", "(I)Ljava/lang/Object;"⟩
abbrev cJx4a65c_get_915e3 : ByteArray := prog_36_method_20_code
def yJx4a65c_get_915e3 : MethodName := ⟨RJx4a65c, "get", "(I)Ljava/lang/Object;"⟩
abbrev cJx4a65c_add_72be8 : ByteArray := prog_36_method_24_code
def yJx4a65c_add_72be8 : MethodName := ⟨RJx4a65c, "add", "(Ljava/lang/Object;[Ljava/lang/Object;I)V"⟩
abbrev cJx4a65c_add_9ea2d : ByteArray := prog_36_method_25_code
def yJx4a65c_add_9ea2d : MethodName := ⟨RJx4a65c, "add", "(Ljava/lang/Object;)Z"⟩
abbrev cJx4a65c_add_7a177 : ByteArray := prog_36_method_26_code
def yJx4a65c_add_7a177 : MethodName := ⟨RJx4a65c, "add", "(ILjava/lang/Object;)V"⟩
abbrev cJx4a65c_remove_915e3 : ByteArray := prog_36_method_29_code
def yJx4a65c_remove_915e3 : MethodName := ⟨RJx4a65c, "remove", "(I)Ljava/lang/Object;"⟩
abbrev cJx4a65c_fastRemove_b59b0 : ByteArray := prog_36_method_39_code
def yJx4a65c_fastRemove_b59b0 : MethodName := ⟨RJx4a65c, "fastRemove", "([Ljava/lang/Object;I)V"⟩
abbrev cJx4a65c_clear_da8c8 : ByteArray := prog_36_method_40_code
def yJx4a65c_clear_da8c8 : MethodName := ⟨RJx4a65c, "clear", "()V"⟩
abbrev cJx4a65c_rangeCheckForAdd_d00df : ByteArray := prog_36_method_45_code
def yJx4a65c_rangeCheckForAdd_d00df : MethodName := ⟨RJx4a65c, "rangeCheckForAdd", "(I)V"⟩
abbrev cJx4a65c_outOfBoundsMsg_b52d3 : ByteArray := prog_36_method_46_code
def yJx4a65c_outOfBoundsMsg_b52d3 : MethodName := ⟨RJx4a65c, "outOfBoundsMsg", "(I)Ljava/lang/String;"⟩
def RJ7 : String := "java/util/Arrays"
def TJ7 : u_T := fun k => match k with
  | _ => ("", "", "", false)
def tyJ7 : Nat → FieldType := fun k => match k with
  | _ => .int
abbrev wsJ70 : List Cond := u_ws RJ7 TJ7 0
theorem nmJ7 : ∀ a, a < 0 → ∀ b, b < 0 → a ≠ b → (TJ7 a).2.1 ≠ (TJ7 b).2.1 := by decide +kernel
theorem tyJ7_ok : ∀ k, k < 0 → parseFieldDescriptor (TJ7 k).2.2.1 = some (tyJ7 k) := by decide +kernel
abbrev cJ7_rangeCheck_23922 : ByteArray := prog_37_method_30_code
def yJ7_rangeCheck_23922 : MethodName := ⟨RJ7, "rangeCheck", "(III)V"⟩
abbrev cJ7_fill_eb02e : ByteArray := prog_37_method_110_code
def yJ7_fill_eb02e : MethodName := ⟨RJ7, "fill", "([BIIB)V"⟩
abbrev cJ7_copyOf_1904c : ByteArray := prog_37_method_119_code
def yJ7_copyOf_1904c : MethodName := ⟨RJ7, "copyOf", "([Ljava/lang/Object;I)[Ljava/lang/Object;"⟩
abbrev cJ7_copyOf_6403c : ByteArray := prog_37_method_120_code
def yJ7_copyOf_6403c : MethodName := ⟨RJ7, "copyOf", "([Ljava/lang/Object;ILjava/lang/Class;)[Ljava/lang/Object;"⟩
abbrev cJ7_copyOf_9075b : ByteArray := prog_37_method_121_code
def yJ7_copyOf_9075b : MethodName := ⟨RJ7, "copyOf", "([BI)[B"⟩
abbrev cJ7_copyOf_59c91 : ByteArray := prog_37_method_123_code
def yJ7_copyOf_59c91 : MethodName := ⟨RJ7, "copyOf", "([II)[I"⟩
abbrev cJ7_checkLength_df160 : ByteArray := prog_37_method_131_code
def yJ7_checkLength_df160 : MethodName := ⟨RJ7, "checkLength", "(II)V"⟩
abbrev cJ7_copyOfRange_39247 : ByteArray := prog_37_method_132_code
def yJ7_copyOfRange_39247 : MethodName := ⟨RJ7, "copyOfRange", "([BII)[B"⟩
abbrev cJ7_copyOfRangeByte_39247 : ByteArray := prog_37_method_133_code
def yJ7_copyOfRangeByte_39247 : MethodName := ⟨RJ7, "copyOfRangeByte", "([BII)[B"⟩
def RJx5ef63 : String := "java/util/Collection"
def TJx5ef63 : u_T := fun k => match k with
  | _ => ("", "", "", false)
def tyJx5ef63 : Nat → FieldType := fun k => match k with
  | _ => .int
abbrev wsJx5ef630 : List Cond := u_ws RJx5ef63 TJx5ef63 0
theorem nmJx5ef63 : ∀ a, a < 0 → ∀ b, b < 0 → a ≠ b → (TJx5ef63 a).2.1 ≠ (TJx5ef63 b).2.1 := by decide +kernel
theorem tyJx5ef63_ok : ∀ k, k < 0 → parseFieldDescriptor (TJx5ef63 k).2.2.1 = some (tyJx5ef63 k) := by decide +kernel
def RJxbd725 : String := "java/util/List"
def TJxbd725 : u_T := fun k => match k with
  | _ => ("", "", "", false)
def tyJxbd725 : Nat → FieldType := fun k => match k with
  | _ => .int
abbrev wsJxbd7250 : List Cond := u_ws RJxbd725 TJxbd725 0
theorem nmJxbd725 : ∀ a, a < 0 → ∀ b, b < 0 → a ≠ b → (TJxbd725 a).2.1 ≠ (TJxbd725 b).2.1 := by decide +kernel
theorem tyJxbd725_ok : ∀ k, k < 0 → parseFieldDescriptor (TJxbd725 k).2.2.1 = some (tyJxbd725 k) := by decide +kernel
def RJ15 : String := "java/util/Objects"
def TJ15 : u_T := fun k => match k with
  | _ => ("", "", "", false)
def tyJ15 : Nat → FieldType := fun k => match k with
  | _ => .int
abbrev wsJ150 : List Cond := u_ws RJ15 TJ15 0
theorem nmJ15 : ∀ a, a < 0 → ∀ b, b < 0 → a ≠ b → (TJ15 a).2.1 ≠ (TJ15 b).2.1 := by decide +kernel
theorem tyJ15_ok : ∀ k, k < 0 → parseFieldDescriptor (TJ15 k).2.2.1 = some (tyJ15 k) := by decide +kernel
abbrev cJ15_checkIndex_7cf53 : ByteArray := prog_41_method_17_code
def yJ15_checkIndex_7cf53 : MethodName := ⟨RJ15, "checkIndex", "(II)I"⟩
def RJxf0a74 : String := "java/util/RandomAccess"
def TJxf0a74 : u_T := fun k => match k with
  | _ => ("", "", "", false)
def tyJxf0a74 : Nat → FieldType := fun k => match k with
  | _ => .int
abbrev wsJxf0a740 : List Cond := u_ws RJxf0a74 TJxf0a74 0
theorem nmJxf0a74 : ∀ a, a < 0 → ∀ b, b < 0 → a ≠ b → (TJxf0a74 a).2.1 ≠ (TJxf0a74 b).2.1 := by decide +kernel
theorem tyJxf0a74_ok : ∀ k, k < 0 → parseFieldDescriptor (TJxf0a74 k).2.2.1 = some (tyJxf0a74 k) := by decide +kernel
def RJxa66e6 : String := "java/util/SequencedCollection"
def TJxa66e6 : u_T := fun k => match k with
  | _ => ("", "", "", false)
def tyJxa66e6 : Nat → FieldType := fun k => match k with
  | _ => .int
abbrev wsJxa66e60 : List Cond := u_ws RJxa66e6 TJxa66e6 0
theorem nmJxa66e6 : ∀ a, a < 0 → ∀ b, b < 0 → a ≠ b → (TJxa66e6 a).2.1 ≠ (TJxa66e6 b).2.1 := by decide +kernel
theorem tyJxa66e6_ok : ∀ k, k < 0 → parseFieldDescriptor (TJxa66e6 k).2.2.1 = some (tyJxa66e6 k) := by decide +kernel
def RJ8 : String := "jdk/internal/util/ArraysSupport"
def TJ8 : u_T := fun k => match k with
  | _ => ("", "", "", false)
def tyJ8 : Nat → FieldType := fun k => match k with
  | _ => .int
abbrev wsJ80 : List Cond := u_ws RJ8 TJ8 0
theorem nmJ8 : ∀ a, a < 0 → ∀ b, b < 0 → a ≠ b → (TJ8 a).2.1 ≠ (TJ8 b).2.1 := by decide +kernel
theorem tyJ8_ok : ∀ k, k < 0 → parseFieldDescriptor (TJ8 k).2.2.1 = some (tyJ8 k) := by decide +kernel
abbrev cJ8_newLength_cabcc : ByteArray := prog_44_method_27_code
def yJ8_newLength_cabcc : MethodName := ⟨RJ8, "newLength", "(III)I"⟩
abbrev cJ8_hugeLength_7cf53 : ByteArray := prog_44_method_28_code
def yJ8_hugeLength_7cf53 : MethodName := ⟨RJ8, "hugeLength", "(II)I"⟩
def RJ3 : String := "jdk/internal/util/Preconditions"
def TJ3 : u_T := fun k => match k with
  | _ => ("", "", "", false)
def tyJ3 : Nat → FieldType := fun k => match k with
  | _ => .int
abbrev wsJ30 : List Cond := u_ws RJ3 TJ3 0
theorem nmJ3 : ∀ a, a < 0 → ∀ b, b < 0 → a ≠ b → (TJ3 a).2.1 ≠ (TJ3 b).2.1 := by decide +kernel
theorem tyJ3_ok : ∀ k, k < 0 → parseFieldDescriptor (TJ3 k).2.2.1 = some (tyJ3 k) := by decide +kernel
abbrev cJ3_checkIndex_8e157 : ByteArray := prog_45_method_11_code
def yJ3_checkIndex_8e157 : MethodName := ⟨RJ3, "checkIndex", "(IILjava/util/function/BiFunction;)I"⟩
abbrev cJ3_checkFromToIndex_8c36e : ByteArray := prog_45_method_12_code
def yJ3_checkFromToIndex_8c36e : MethodName := ⟨RJ3, "checkFromToIndex", "(IIILjava/util/function/BiFunction;)I"⟩
abbrev cJ3_checkFromIndexSize_8c36e : ByteArray := prog_45_method_13_code
def yJ3_checkFromIndexSize_8c36e : MethodName := ⟨RJ3, "checkFromIndexSize", "(IIILjava/util/function/BiFunction;)I"⟩
def RL : String := "QuizspoolLaw"
abbrev cL_type : ByteArray := method_3_code
def yL_type : MethodName := ⟨RL, "type", "(LQuizspool;I[J)I"⟩
abbrev cL_add : ByteArray := method_4_code
def yL_add : MethodName := ⟨RL, "add", "(LQuizspool;I[J)I"⟩
abbrev cL_twin : ByteArray := method_5_code
def yL_twin : MethodName := ⟨RL, "twin", "(LQuizspool;II[J)I"⟩
abbrev cL_areTwins : ByteArray := method_6_code
def yL_areTwins : MethodName := ⟨RL, "areTwins", "(LQuizspool;II[J)I"⟩
abbrev cL_wordAt : ByteArray := method_7_code
def yL_wordAt : MethodName := ⟨RL, "wordAt", "(LQuizspool;II[J)I"⟩
abbrev cL_level : ByteArray := method_8_code
def yL_level : MethodName := ⟨RL, "level", "(LQuizspool;I[J)I"⟩
abbrev cL_levelAnew : ByteArray := method_9_code
def yL_levelAnew : MethodName := ⟨RL, "levelAnew", "(LQuizspool;I[J)I"⟩
abbrev cL_kind : ByteArray := method_10_code
def yL_kind : MethodName := ⟨RL, "kind", "(LQuizspool;I[J)I"⟩
abbrev cL_search : ByteArray := method_11_code
def yL_search : MethodName := ⟨RL, "search", "(LQuizspool;[J)I"⟩
abbrev cL_hitAt : ByteArray := method_12_code
def yL_hitAt : MethodName := ⟨RL, "hitAt", "(LQuizspool;I[J)I"⟩
abbrev cL_rankAt : ByteArray := method_13_code
def yL_rankAt : MethodName := ⟨RL, "rankAt", "(LQuizspool;I[J)I"⟩
abbrev cL_nextWeek : ByteArray := method_14_code
def yL_nextWeek : MethodName := ⟨RL, "nextWeek", "(LQuizspool;[J)I"⟩
abbrev cL_plan : ByteArray := method_15_code
def yL_plan : MethodName := ⟨RL, "plan", "(LQuizspool;ICI[J)I"⟩
abbrev cL_drop : ByteArray := method_16_code
def yL_drop : MethodName := ⟨RL, "drop", "(LQuizspool;I[J)I"⟩
abbrev cL_held : ByteArray := method_17_code
def yL_held : MethodName := ⟨RL, "held", "(LQuizspool;I[J)I"⟩
abbrev cL_heldAt : ByteArray := method_18_code
def yL_heldAt : MethodName := ⟨RL, "heldAt", "(LQuizspool;II[J)I"⟩
abbrev cL_lacks : ByteArray := method_19_code
def yL_lacks : MethodName := ⟨RL, "lacks", "(LQuizspool;I[J)I"⟩
abbrev cL_isFree : ByteArray := method_20_code
def yL_isFree : MethodName := ⟨RL, "isFree", "(LQuizspool;I[J)I"⟩
abbrev cL_quiz : ByteArray := method_21_code
def yL_quiz : MethodName := ⟨RL, "quiz", "(LQuizspool;IIII[J)I"⟩
abbrev cL_quizOf : ByteArray := method_22_code
def yL_quizOf : MethodName := ⟨RL, "quizOf", "(LQuizspool;I[J)I"⟩
abbrev cL_size : ByteArray := method_23_code
def yL_size : MethodName := ⟨RL, "size", "(LQuizspool;I[J)I"⟩
abbrev cL_questionAt : ByteArray := method_24_code
def yL_questionAt : MethodName := ⟨RL, "questionAt", "(LQuizspool;II[J)I"⟩
abbrev cL_stateOf : ByteArray := method_25_code
def yL_stateOf : MethodName := ⟨RL, "stateOf", "(LQuizspool;I[J)I"⟩
abbrev cL_print : ByteArray := method_26_code
def yL_print : MethodName := ⟨RL, "print", "(LQuizspool;[J)I"⟩
abbrev cL_cancel : ByteArray := method_27_code
def yL_cancel : MethodName := ⟨RL, "cancel", "(LQuizspool;I[J)I"⟩
abbrev cL_answer : ByteArray := method_28_code
def yL_answer : MethodName := ⟨RL, "answer", "(LQuizspool;IIZ[J)I"⟩
abbrev cL_textOf : ByteArray := method_29_code
def yL_textOf : MethodName := ⟨RL, "textOf", "(LQuizspool;II[J)I"⟩
abbrev cL_rightShare : ByteArray := method_30_code
def yL_rightShare : MethodName := ⟨RL, "rightShare", "(LQuizspool;[D)I"⟩
abbrev cL_meanLevel : ByteArray := method_31_code
def yL_meanLevel : MethodName := ⟨RL, "meanLevel", "(LQuizspool;[D)I"⟩
abbrev cL_law : ByteArray := code
def yL_law : MethodName := ⟨RL, "law", "([I)Z"⟩
abbrev vwCl : List vw_C := [(RJ0, TJ0, 4), (RJ4, TJ4, 4), (RJx00060, TJx00060, 6), (RJx7c733, TJx7c733, 6), (RJx4a65c, TJx4a65c, 3), (RX0, TX0, 5), (RX1, TX1, 11), (RX2, TX2, 3), (RX3, TX3, 13), (RX4, TX4, 31)]
