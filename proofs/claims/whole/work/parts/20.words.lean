theorem gwi {w : Cond} (i : Nat) (h : tables_1[i]? = some w) (hg : goodWord w = true) : w ∈ GW := List.mem_filter.mpr ⟨List.mem_append_left _ (List.mem_append_right _ (List.mem_of_getElem? h)), hg⟩
theorem gwp {w : Cond} (i : Nat) (h : (k2_sels lw_privs)[i]? = some w) (hg : goodWord w = true) : w ∈ GW := List.mem_filter.mpr ⟨List.mem_append_left _ (List.mem_append_left _ (List.mem_of_getElem? h)), hg⟩
theorem gwx {w : Cond} (i : Nat) (h : z_xs[i]? = some w) (hg : goodWord w = true) : w ∈ GW := List.mem_filter.mpr ⟨List.mem_append_right _ (List.mem_of_getElem? h), hg⟩
theorem Fl.g {own : String} {idx ci k : Nat} {ty : FieldType} {fin : Bool} (h : Fl own idx ci k ty fin) : FlG own idx ci k := by
  obtain ⟨C, T, N, tf, ref, h1, h2, h3, h4, -⟩ := h
  exact ⟨C, T, N, tf, ref, h1, h2, h3, h4⟩
theorem gwl {ws : List Cond} (is : List Nat) (h : ws = is.filterMap (fun i => tables_1[i]?)) (hg : ws.all goodWord = true) : ∀ w ∈ ws, w ∈ GW := by
  intro w hw
  have hg' := List.all_eq_true.mp hg w hw
  rw [h] at hw
  obtain ⟨i, -, hi⟩ := List.mem_filterMap.mp hw
  exact gwi i hi hg'

theorem w_arr0 : Cond.arrayClass .byte ∈ GW := (gwi 100 (by decide +kernel) (by decide +kernel))
theorem w_arr1 : Cond.arrayClass .char ∈ GW := (gwi 1313 (by decide +kernel) (by decide +kernel))
theorem w_arr2 : Cond.arrayClass .int ∈ GW := (gwi 67 (by decide +kernel) (by decide +kernel))
theorem w_arr3 : Cond.arrayClass .boolean ∈ GW := (gwi 431 (by decide +kernel) (by decide +kernel))
theorem w_arr5 : Cond.arrayClass .long ∈ GW := (gwi 1572 (by decide +kernel) (by decide +kernel))
theorem w_arr6 : Cond.arrayClass .double ∈ GW := (gwi 1573 (by decide +kernel) (by decide +kernel))
abbrev y_clA : MethodName := ⟨"[I", "clone", "()Ljava/lang/Object;"⟩
abbrev y_clO : MethodName := ⟨"java/lang/Object", "clone", "()Ljava/lang/Object;"⟩
theorem w_cl0 : Cond.methodLink "java/util/Arrays" 316 y_clA ∈ GW := (gwi 377 (by decide +kernel) (by decide +kernel))
theorem w_cl1 : Cond.sameMethod "[I" "java/lang/Object" "clone" "()Ljava/lang/Object;" ∈ GW := (gwi 378 (by decide +kernel) (by decide +kernel))
theorem w_cl2 : Cond.native y_clO ∈ GW := (gwi 379 (by decide +kernel) (by decide +kernel))
theorem w_cl3 : Cond.instanceMethod y_clO ∈ GW := (gwi 380 (by decide +kernel) (by decide +kernel))
theorem w_cl4 : Cond.selects "[I" y_clA y_clO ∈ GW := (gwi 381 (by decide +kernel) (by decide +kernel))
theorem w_gc0 : Cond.methodLink "java/util/Arrays" 86 y_getC ∈ GW := (gwi 459 (by decide +kernel) (by decide +kernel))
theorem w_gc2 : Cond.selects "[Ljava/lang/Object;" y_getC y_getC ∈ GW := (gwi 1607 (by decide +kernel) (by decide +kernel))
theorem w_gc3 : Cond.instanceMethod y_getC ∈ GW := (gwi 460 (by decide +kernel) (by decide +kernel))
theorem w_gc4 : Cond.native y_getC ∈ GW := (gwi 478 (by decide +kernel) (by decide +kernel))
theorem w_ac0 : Cond.methodLink "java/util/Arrays" 150 arraycopyName ∈ GW := (gwi 385 (by decide +kernel) (by decide +kernel))
theorem w_acL : Cond.methodLink "java/util/ArrayList" 112 arraycopyName ∈ GW := (gwi 506 (by decide +kernel) (by decide +kernel))
theorem w_ac1 : Cond.native arraycopyName ∈ GW := (gwi 387 (by decide +kernel) (by decide +kernel))
theorem w_ac2 : Cond.static arraycopyName ∈ GW := (gwi 386 (by decide +kernel) (by decide +kernel))
theorem w_ac3 : Cond.initialized "java/lang/System" ∈ GW := (gwi 19 (by decide +kernel) (by decide +kernel))
theorem w_ob1 : Cond.instanceMethod Lib.objectInit ∈ GW := (gwi 39 (by decide +kernel) (by decide +kernel))
theorem w_ob2 : Cond.code Lib.objectInit ⟨#[0xb1]⟩ 1 none ∈ GW := (gwi 40 (by decide +kernel) (by decide +kernel))
theorem w_E0 : Cond.fieldLink "java/util/ArrayList" 39 "java/util/ArrayList" "DEFAULTCAPACITY_EMPTY_ELEMENTDATA" "[Ljava/lang/Object;" ∈ GW := (gwi 53 (by decide +kernel) (by decide +kernel))
theorem w_ldM : Cond.classLink "java/util/Arrays" 110 "[Ljava/lang/Object;" ∈ GW := (gwi 482 (by decide +kernel) (by decide +kernel))
theorem w_ob_RX3_1 : Cond.methodLink RX3 1 Lib.objectInit ∈ GW := (gwi 38 (by decide +kernel) (by decide +kernel))
theorem w_ob_RJxa1e45_1 : Cond.methodLink RJxa1e45 1 Lib.objectInit ∈ GW := (gwi 52 (by decide +kernel) (by decide +kernel))
theorem w_ob_RJ5_3 : Cond.methodLink RJ5 3 Lib.objectInit ∈ GW := (gwi 76 (by decide +kernel) (by decide +kernel))
theorem w_ob_RX1_3 : Cond.methodLink RX1 3 Lib.objectInit ∈ GW := (gwi 391 (by decide +kernel) (by decide +kernel))
theorem w_ob_RJ0_1 : Cond.methodLink RJ0 1 Lib.objectInit ∈ GW := (gwi 799 (by decide +kernel) (by decide +kernel))
theorem w_ob_RX0_1 : Cond.methodLink RX0 1 Lib.objectInit ∈ GW := (gwi 893 (by decide +kernel) (by decide +kernel))
theorem w_ob_RX2_3 : Cond.methodLink RX2 3 Lib.objectInit ∈ GW := (gwi 985 (by decide +kernel) (by decide +kernel))
theorem w_ob_RX4_1 : Cond.methodLink RX4 1 Lib.objectInit ∈ GW := (gwi 1218 (by decide +kernel) (by decide +kernel))
theorem w_co_RJ7_2 : Cond.classLink RJ7 2 "java/lang/Object" ∈ GW := (gwi 484 (by decide +kernel) (by decide +kernel))
theorem w_co_RJx4a65c_7 : Cond.classLink RJx4a65c 7 "java/lang/Object" ∈ GW := (gwi 486 (by decide +kernel) (by decide +kernel))
theorem w_cs_RJ5_18 : Cond.fieldLink RJ5 18 "java/lang/String" "COMPACT_STRINGS" "Z" ∈ GW := (gwi 77 (by decide +kernel) (by decide +kernel))
theorem w_cs_RJ0_38 : Cond.fieldLink RJ0 38 "java/lang/String" "COMPACT_STRINGS" "Z" ∈ GW := (gwi 727 (by decide +kernel) (by decide +kernel))
theorem cl_1 : ClOK 1 RJ4 TJ4 4 tyJ4 := ⟨rfl, rfl, by omega, gwl [91, 93, 95, 97] (by decide +kernel) (by decide +kernel), tyJ4_ok, nmJ4⟩
theorem cl_4 : ClOK 4 RJx4a65c TJx4a65c 3 tyJx4a65c := ⟨rfl, rfl, by omega, gwl [64, 60, 62] (by decide +kernel) (by decide +kernel), tyJx4a65c_ok, nmJx4a65c⟩
theorem cl_5 : ClOK 5 RX0 TX0 5 tyX0 := ⟨rfl, rfl, by omega, gwl [904, 906, 908, 910, 912] (by decide +kernel) (by decide +kernel), tyX0_ok, nmX0⟩
theorem cl_6 : ClOK 6 RX1 TX1 11 tyX1 := ⟨rfl, rfl, by omega, gwl [408, 410, 412, 414, 416, 418, 420, 422, 424, 426, 428] (by decide +kernel) (by decide +kernel), tyX1_ok, nmX1⟩
theorem cl_7 : ClOK 7 RX2 TX2 3 tyX2 := ⟨rfl, rfl, by omega, gwl [997, 999, 1001] (by decide +kernel) (by decide +kernel), tyX2_ok, nmX2⟩
theorem cl_8 : ClOK 8 RX3 TX3 13 tyX3 := ⟨rfl, rfl, by omega, gwl [114, 116, 118, 120, 122, 124, 126, 128, 130, 132, 134, 136, 138] (by decide +kernel) (by decide +kernel), tyX3_ok, nmX3⟩
theorem cl_9 : ClOK 9 RX4 TX4 31 tyX4 := ⟨rfl, rfl, by omega, gwl [1250, 1252, 1254, 1256, 1258, 1260, 1262, 1264, 1266, 1268, 1270, 1272, 1274, 1276, 1278, 1280, 1282, 1284, 1286, 1288, 1290, 1292, 1294, 1296, 1298, 1300, 1302, 1304, 1306, 1308, 1310] (by decide +kernel) (by decide +kernel), tyX4_ok, nmX4⟩
abbrev m_X0_init : MT := (yX0_init, cX0_init, 4, none, [])
abbrev m_X0_missing : MT := (yX0_missing, cX0_missing, 1, some .int, [])
abbrev m_X1_init : MT := (yX1_init, cX1_init, 4, none, [])
abbrev m_X1_kindNow : MT := (yX1_kindNow, cX1_kindNow, 1, some .char, [])
abbrev m_X1_rankFor : MT := (yX1_rankFor, cX1_rankFor, 9, some .int, [])
abbrev m_X1_takeAnswer : MT := (yX1_takeAnswer, cX1_takeAnswer, 2, none, [])
abbrev m_X1_levelByAnswers : MT := (yX1_levelByAnswers, cX1_levelByAnswers, 3, some .int, [])
abbrev m_X1_shifted : MT := (yX1_shifted, cX1_shifted, 2, some .int, [])
abbrev m_X2_init : MT := (yX2_init, cX2_init, 3, none, [])
abbrev m_X2_markAnswered : MT := (yX2_markAnswered, cX2_markAnswered, 2, some .boolean, [])
abbrev m_X3_init : MT := (yX3_init, cX3_init, 1, none, [])
abbrev m_X3_type : MT := (yX3_type, cX3_type, 2, some .int, [])
abbrev m_X3_erase : MT := (yX3_erase, cX3_erase, 2, some .int, [])
abbrev m_X3_add : MT := (yX3_add, cX3_add, 3, some .int, [])
abbrev m_X3_twin : MT := (yX3_twin, cX3_twin, 5, some .int, [])
abbrev m_X3_areTwins : MT := (yX3_areTwins, cX3_areTwins, 5, some .boolean, [])
abbrev m_X3_wordAt : MT := (yX3_wordAt, cX3_wordAt, 4, some .int, [])
abbrev m_X3_level : MT := (yX3_level, cX3_level, 2, some .int, [])
abbrev m_X3_levelAnew : MT := (yX3_levelAnew, cX3_levelAnew, 2, some .int, [])
abbrev m_X3_kind : MT := (yX3_kind, cX3_kind, 2, some .char, [])
abbrev m_X3_search : MT := (yX3_search, cX3_search, 4, some .int, [])
abbrev m_X3_hitAt : MT := (yX3_hitAt, cX3_hitAt, 2, some .int, [])
abbrev m_X3_rankAt : MT := (yX3_rankAt, cX3_rankAt, 2, some .int, [])
abbrev m_X3_week : MT := (yX3_week, cX3_week, 1, some .int, [])
abbrev m_X3_nextWeek : MT := (yX3_nextWeek, cX3_nextWeek, 1, some .int, [])
abbrev m_X3_plan : MT := (yX3_plan, cX3_plan, 4, some .int, [])
abbrev m_X3_drop : MT := (yX3_drop, cX3_drop, 4, some .int, [])
abbrev m_X3_held : MT := (yX3_held, cX3_held, 2, some .int, [])
abbrev m_X3_heldAt : MT := (yX3_heldAt, cX3_heldAt, 3, some .int, [])
abbrev m_X3_lacks : MT := (yX3_lacks, cX3_lacks, 3, some .int, [])
abbrev m_X3_isFree : MT := (yX3_isFree, cX3_isFree, 2, some .boolean, [])
abbrev m_X3_quiz : MT := (yX3_quiz, cX3_quiz, 5, some .int, [])
abbrev m_X3_quizOf : MT := (yX3_quizOf, cX3_quizOf, 4, some .int, [])
abbrev m_X3_size : MT := (yX3_size, cX3_size, 2, some .int, [])
abbrev m_X3_questionAt : MT := (yX3_questionAt, cX3_questionAt, 3, some .int, [])
abbrev m_X3_stateOf : MT := (yX3_stateOf, cX3_stateOf, 2, some .char, [])
abbrev m_X3_waiting : MT := (yX3_waiting, cX3_waiting, 3, some .int, [])
abbrev m_X3_setJam : MT := (yX3_setJam, cX3_setJam, 3, some .boolean, [])
abbrev m_X3_print : MT := (yX3_print, cX3_print, 5, some .int, [])
abbrev m_X3_cancel : MT := (yX3_cancel, cX3_cancel, 4, some .int, [])
abbrev m_X3_answer : MT := (yX3_answer, cX3_answer, 6, some .int, [])
abbrev m_X3_textOf : MT := (yX3_textOf, cX3_textOf, 3, some .char, [])
abbrev m_X3_answers : MT := (yX3_answers, cX3_answers, 1, some .int, [])
abbrev m_X3_allLevels : MT := (yX3_allLevels, cX3_allLevels, 4, some .long, [])
abbrev m_X3_rightShare : MT := (yX3_rightShare, cX3_rightShare, 1, some .float, [])
abbrev m_X3_meanLevel : MT := (yX3_meanLevel, cX3_meanLevel, 1, some .double, [])
abbrev m_X3_isSound : MT := (yX3_isSound, cX3_isSound, 1, some .boolean, [])
abbrev m_X3_isOutside : MT := (yX3_isOutside, cX3_isOutside, 3, some .boolean, [])
abbrev m_X3_questionOf : MT := (yX3_questionOf, cX3_questionOf, 2, some (.object "Quizspool$Question"), [])
abbrev m_X3_planOf : MT := (yX3_planOf, cX3_planOf, 2, some (.object "Quizspool$Plan"), [])
abbrev m_X3_sheetOf : MT := (yX3_sheetOf, cX3_sheetOf, 2, some (.object "Quizspool$Sheet"), [])
abbrev m_X3_hitOf : MT := (yX3_hitOf, cX3_hitOf, 2, some (.object "Quizspool$Question"), [])
abbrev m_X3_elementOf : MT := (yX3_elementOf, cX3_elementOf, 2, some (.object "Quizspool$Question"), [])
abbrev m_X3_wordsOfRow : MT := (yX3_wordsOfRow, cX3_wordsOfRow, 3, some .int, [])
abbrev m_X3_placeAmongHits : MT := (yX3_placeAmongHits, cX3_placeAmongHits, 3, some .int, [])
abbrev m_X3_joinFamilies : MT := (yX3_joinFamilies, cX3_joinFamilies, 4, none, [])
abbrev m_X3_countTwins : MT := (yX3_countTwins, cX3_countTwins, 4, some .int, [])
abbrev m_X3_hasRelative : MT := (yX3_hasRelative, cX3_hasRelative, 4, some .boolean, [])
abbrev m_X3_isOpen : MT := (yX3_isOpen, cX3_isOpen, 2, some .boolean, [])
abbrev m_X3_isAvailable : MT := (yX3_isAvailable, cX3_isAvailable, 2, some .boolean, [])
abbrev m_X3_settlePlans : MT := (yX3_settlePlans, cX3_settlePlans, 2, none, [])
abbrev m_X3_letGoUnfit : MT := (yX3_letGoUnfit, cX3_letGoUnfit, 2, none, [])
abbrev m_X3_isFit : MT := (yX3_isFit, cX3_isFit, 3, some .boolean, [])
abbrev m_X3_letGoAll : MT := (yX3_letGoAll, cX3_letGoAll, 2, none, [])
abbrev m_X3_close : MT := (yX3_close, cX3_close, 1, none, [])
abbrev m_X3_fill : MT := (yX3_fill, cX3_fill, 4, none, [])
abbrev m_X3_isCandidate : MT := (yX3_isCandidate, cX3_isCandidate, 4, some .boolean, [])
abbrev m_X3_drawQuestions : MT := (yX3_drawQuestions, cX3_drawQuestions, 8, some .boolean, [])
abbrev m_X3_gatherCandidates : MT := (yX3_gatherCandidates, cX3_gatherCandidates, 3, none, [])
abbrev m_X3_spool : MT := (yX3_spool, cX3_spool, 3, some .int, [])
abbrev m_X3_firstWaiting : MT := (yX3_firstWaiting, cX3_firstWaiting, 2, some .int, [])
abbrev m_X3_writeText : MT := (yX3_writeText, cX3_writeText, 4, none, [])
abbrev m_X3_areLevelsAsAnswered : MT := (yX3_areLevelsAsAnswered, cX3_areLevelsAsAnswered, 2, some .boolean, [])
abbrev m_X3_isNoneHeldTwice : MT := (yX3_isNoneHeldTwice, cX3_isNoneHeldTwice, 2, some .boolean, [])
abbrev m_X3_countHolder : MT := (yX3_countHolder, cX3_countHolder, 2, none, [])
abbrev m_X3_arePlansKept : MT := (yX3_arePlansKept, cX3_arePlansKept, 4, some .boolean, [])
abbrev m_X4_init : MT := (yX4_init, cX4_init, 1, none, [])
abbrev m_X4_thrown : MT := (yX4_thrown, cX4_thrown, 1, some .int, [])
abbrev m_X4_in : MT := (yX4_in, cX4_in, 3, some .boolean, [])
abbrev m_X4_plain : MT := (yX4_plain, cX4_plain, 2, some .int, [])
abbrev m_X4_isQuestion : MT := (yX4_isQuestion, cX4_isQuestion, 2, some .boolean, [])
abbrev m_X4_isPlan : MT := (yX4_isPlan, cX4_isPlan, 2, some .boolean, [])
abbrev m_X4_isSheet : MT := (yX4_isSheet, cX4_isSheet, 2, some .boolean, [])
abbrev m_X4_type : MT := (yX4_type, cX4_type, 2, some .int, [])
abbrev m_X4_erase : MT := (yX4_erase, cX4_erase, 2, some .int, [])
abbrev m_X4_add : MT := (yX4_add, cX4_add, 3, some .int, [])
abbrev m_X4_twin : MT := (yX4_twin, cX4_twin, 6, some .int, [])
abbrev m_X4_areTwin : MT := (yX4_areTwin, cX4_areTwin, 3, some .boolean, [])
abbrev m_X4_areTwins : MT := (yX4_areTwins, cX4_areTwins, 3, some .boolean, [])
abbrev m_X4_wrongQuestion : MT := (yX4_wrongQuestion, cX4_wrongQuestion, 2, some .int, [])
abbrev m_X4_wordAt : MT := (yX4_wordAt, cX4_wordAt, 3, some .int, [])
abbrev m_X4_level : MT := (yX4_level, cX4_level, 2, some .int, [])
abbrev m_X4_levelAnew : MT := (yX4_levelAnew, cX4_levelAnew, 2, some .int, [])
abbrev m_X4_kindOf : MT := (yX4_kindOf, cX4_kindOf, 2, some .char, [])
abbrev m_X4_kind : MT := (yX4_kind, cX4_kind, 2, some .char, [])
abbrev m_X4_isTyped : MT := (yX4_isTyped, cX4_isTyped, 3, some .boolean, [])
abbrev m_X4_hasAhead : MT := (yX4_hasAhead, cX4_hasAhead, 4, some .boolean, [])
abbrev m_X4_rankOf : MT := (yX4_rankOf, cX4_rankOf, 4, some .int, [])
abbrev m_X4_search : MT := (yX4_search, cX4_search, 4, some .int, [])
abbrev m_X4_hitAt : MT := (yX4_hitAt, cX4_hitAt, 2, some .int, [])
abbrev m_X4_rankAt : MT := (yX4_rankAt, cX4_rankAt, 2, some .int, [])
abbrev m_X4_week : MT := (yX4_week, cX4_week, 1, some .int, [])
abbrev m_X4_nextWeek : MT := (yX4_nextWeek, cX4_nextWeek, 1, some .int, [])
abbrev m_X4_isKind : MT := (yX4_isKind, cX4_isKind, 1, some .boolean, [])
abbrev m_X4_plan : MT := (yX4_plan, cX4_plan, 4, some .int, [])
abbrev m_X4_isInForce : MT := (yX4_isInForce, cX4_isInForce, 2, some .boolean, [])
abbrev m_X4_heldBy : MT := (yX4_heldBy, cX4_heldBy, 2, some .int, [])
abbrev m_X4_drop : MT := (yX4_drop, cX4_drop, 3, some .int, [])
abbrev m_X4_wrongPlan : MT := (yX4_wrongPlan, cX4_wrongPlan, 2, some .int, [])
abbrev m_X4_held : MT := (yX4_held, cX4_held, 2, some .int, [])
abbrev m_X4_heldAt : MT := (yX4_heldAt, cX4_heldAt, 3, some .int, [])
abbrev m_X4_lacks : MT := (yX4_lacks, cX4_lacks, 2, some .int, [])
abbrev m_X4_isHeld : MT := (yX4_isHeld, cX4_isHeld, 4, some .boolean, [])
abbrev m_X4_hasOn : MT := (yX4_hasOn, cX4_hasOn, 4, some .boolean, [])
abbrev m_X4_isFreeNow : MT := (yX4_isFreeNow, cX4_isFreeNow, 2, some .boolean, [])
abbrev m_X4_isFree : MT := (yX4_isFree, cX4_isFree, 2, some .boolean, [])
abbrev m_X4_hasTwinIn : MT := (yX4_hasTwinIn, cX4_hasTwinIn, 5, some .boolean, [])
abbrev m_X4_settle : MT := (yX4_settle, cX4_settle, 5, none, [])
abbrev m_X4_isCandidate : MT := (yX4_isCandidate, cX4_isCandidate, 7, some .boolean, [])
abbrev m_X4_candidate : MT := (yX4_candidate, cX4_candidate, 6, some .int, [])
abbrev m_X4_quiz : MT := (yX4_quiz, cX4_quiz, 11, some .int, [])
abbrev m_X4_isTrial : MT := (yX4_isTrial, cX4_isTrial, 6, some .boolean, [])
abbrev m_X4_canDraw : MT := (yX4_canDraw, cX4_canDraw, 12, some .boolean, [])
abbrev m_X4_made : MT := (yX4_made, cX4_made, 2, none, [])
abbrev m_X4_quizOf : MT := (yX4_quizOf, cX4_quizOf, 4, some .int, [])
abbrev m_X4_wrongSheet : MT := (yX4_wrongSheet, cX4_wrongSheet, 2, some .int, [])
abbrev m_X4_size : MT := (yX4_size, cX4_size, 2, some .int, [])
abbrev m_X4_questionAt : MT := (yX4_questionAt, cX4_questionAt, 3, some .int, [])
abbrev m_X4_stateOf : MT := (yX4_stateOf, cX4_stateOf, 2, some .char, [])
abbrev m_X4_waiting : MT := (yX4_waiting, cX4_waiting, 3, some .int, [])
abbrev m_X4_setJam : MT := (yX4_setJam, cX4_setJam, 3, some .boolean, [])
abbrev m_X4_print : MT := (yX4_print, cX4_print, 3, some .int, [])
abbrev m_X4_cancel : MT := (yX4_cancel, cX4_cancel, 2, some .int, [])
abbrev m_X4_answer : MT := (yX4_answer, cX4_answer, 6, some .int, [])
abbrev m_X4_put : MT := (yX4_put, cX4_put, 2, none, [])
abbrev m_X4_putNumber : MT := (yX4_putNumber, cX4_putNumber, 2, none, [])
abbrev m_X4_textOf : MT := (yX4_textOf, cX4_textOf, 4, some .char, [])
abbrev m_X4_answers : MT := (yX4_answers, cX4_answers, 1, some .int, [])
abbrev m_X4_allLevels : MT := (yX4_allLevels, cX4_allLevels, 4, some .long, [])
abbrev m_X4_rightShare : MT := (yX4_rightShare, cX4_rightShare, 1, some .float, [])
abbrev m_X4_meanLevel : MT := (yX4_meanLevel, cX4_meanLevel, 3, some .double, [])
abbrev m_X4_isSound : MT := (yX4_isSound, cX4_isSound, 1, some .boolean, [])
abbrev m_J5_init_d00df : MT := (yJ5_init_d00df, cJ5_init_d00df, 2, none, [])
abbrev m_J5_length_8abf5 : MT := (yJ5_length_8abf5, cJ5_length_8abf5, 1, some .int, [])
abbrev m_J5_ensureCapacityInternal_d00df : MT := (yJ5_ensureCapacityInternal_d00df, cJ5_ensureCapacityInternal_d00df, 3, none, [])
abbrev m_J5_newCapacity_0f7a4 : MT := (yJ5_newCapacity_0f7a4, cJ5_newCapacity_0f7a4, 6, some .int, [])
abbrev m_J5_inflate_da8c8 : MT := (yJ5_inflate_da8c8, cJ5_inflate_da8c8, 2, none, [])
abbrev m_J5_setLength_d00df : MT := (yJ5_setLength_d00df, cJ5_setLength_d00df, 2, none, [])
abbrev m_J5_charAt_5068e : MT := (yJ5_charAt_5068e, cJ5_charAt_5068e, 5, some .char, [])
abbrev m_J5_append_cf1ce : MT := (yJ5_append_cf1ce, cJ5_append_cf1ce, 3, some (.object "java/lang/AbstractStringBuilder"), [])
abbrev m_J5_appendNull_278bc : MT := (yJ5_appendNull_278bc, cJ5_appendNull_278bc, 3, some (.object "java/lang/AbstractStringBuilder"), [])
abbrev m_J5_append_3fe6f : MT := (yJ5_append_3fe6f, cJ5_append_3fe6f, 2, some (.object "java/lang/AbstractStringBuilder"), [])
abbrev m_J5_append_c97b9 : MT := (yJ5_append_c97b9, cJ5_append_c97b9, 4, some (.object "java/lang/AbstractStringBuilder"), [])
abbrev m_J5_getValue_6d5f1 : MT := (yJ5_getValue_6d5f1, cJ5_getValue_6d5f1, 1, some (.array .byte), [])
abbrev m_J5_isLatin1_aae02 : MT := (yJ5_isLatin1_aae02, cJ5_isLatin1_aae02, 1, some .boolean, [])
abbrev m_J5_inflateIfNeededFor_a7421 : MT := (yJ5_inflateIfNeededFor_a7421, cJ5_inflateIfNeededFor_a7421, 2, none, [])
abbrev m_J5_putStringAt_47b60 : MT := (yJ5_putStringAt_47b60, cJ5_putStringAt_47b60, 3, none, [])
abbrev m_Jx00060_init_a7421 : MT := (yJx00060_init_a7421, cJx00060_init_a7421, 2, none, [])
abbrev m_Jx00060_init_d00df : MT := (yJx00060_init_d00df, cJx00060_init_d00df, 2, none, [])
abbrev m_J6_getChars_ba4f3 : MT := (yJ6_getChars_ba4f3, cJ6_getChars_ba4f3, 7, some .int, [])
abbrev m_J6_stringSize_0f7a4 : MT := (yJ6_stringSize_0f7a4, cJ6_stringSize_0f7a4, 4, some .int, [])
abbrev m_J9_floorMod_7cf53 : MT := (yJ9_floorMod_7cf53, cJ9_floorMod_7cf53, 3, some .int, [])
abbrev m_J9_max_7cf53 : MT := (yJ9_max_7cf53, cJ9_max_7cf53, 2, some .int, [])
abbrev m_J9_min_7cf53 : MT := (yJ9_min_7cf53, cJ9_min_7cf53, 2, some .int, [])
abbrev m_J0_init_81219 : MT := (yJ0_init_81219, cJ0_init_81219, 2, none, [])
abbrev m_J0_length_8abf5 : MT := (yJ0_length_8abf5, cJ0_length_8abf5, 1, some .int, [])
abbrev m_J0_getBytes_840e7 : MT := (yJ0_getBytes_840e7, cJ0_getBytes_840e7, 4, none, [])
abbrev m_J0_init_db425 : MT := (yJ0_init_db425, cJ0_init_db425, 5, none, [])
abbrev m_J0_coder_7d493 : MT := (yJ0_coder_7d493, cJ0_coder_7d493, 1, some .byte, [])
abbrev m_J0_checkIndex_df160 : MT := (yJ0_checkIndex_df160, cJ0_checkIndex_df160, 2, none, [])
abbrev m_J0_checkBoundsOffCount_cabcc : MT := (yJ0_checkBoundsOffCount_cabcc, cJ0_checkBoundsOffCount_cabcc, 3, some .int, [])
abbrev m_J0_checkBoundsBeginEnd_23922 : MT := (yJ0_checkBoundsBeginEnd_23922, cJ0_checkBoundsBeginEnd_23922, 3, none, [])
abbrev m_J4_init_da8c8 : MT := (yJ4_init_da8c8, cJ4_init_da8c8, 1, none, [])
abbrev m_J4_append_15ec4 : MT := (yJ4_append_15ec4, cJ4_append_15ec4, 2, some (.object "java/lang/StringBuilder"), [])
abbrev m_J4_append_cf468 : MT := (yJ4_append_cf468, cJ4_append_cf468, 2, some (.object "java/lang/StringBuilder"), [])
abbrev m_J4_append_bf812 : MT := (yJ4_append_bf812, cJ4_append_bf812, 2, some (.object "java/lang/StringBuilder"), [])
abbrev m_J4_toString_0e30d : MT := (yJ4_toString_0e30d, cJ4_toString_0e30d, 1, some (.object "java/lang/String"), [])
abbrev m_J4_charAt_5068e : MT := (yJ4_charAt_5068e, cJ4_charAt_5068e, 2, some .char, [])
abbrev m_J4_setLength_d00df : MT := (yJ4_setLength_d00df, cJ4_setLength_d00df, 2, none, [])
abbrev m_J4_length_8abf5 : MT := (yJ4_length_8abf5, cJ4_length_8abf5, 1, some .int, [])
abbrev m_Jx7c733_init_d00df : MT := (yJx7c733_init_d00df, cJx7c733_init_d00df, 2, none, [])
abbrev m_J1_canEncode_fc78d : MT := (yJ1_canEncode_fc78d, cJ1_canEncode_fc78d, 1, some .boolean, [])
abbrev m_J1_fillNull_b72d1 : MT := (yJ1_fillNull_b72d1, cJ1_fillNull_b72d1, 3, none, [])
abbrev m_J1_inflate_0e8fd : MT := (yJ1_inflate_0e8fd, cJ1_inflate_0e8fd, 5, none, [])
abbrev m_J2_newBytesFor_77867 : MT := (yJ2_newBytesFor_77867, cJ2_newBytesFor_77867, 1, some (.array .byte), [])
abbrev m_J2_newBytesLength_0f7a4 : MT := (yJ2_newBytesLength_0f7a4, cJ2_newBytesLength_0f7a4, 1, some .int, [])
abbrev m_J2_putChar_b72d1 : MT := (yJ2_putChar_b72d1, cJ2_putChar_b72d1, 3, none, [])
abbrev m_J2_getChar_3b067 : MT := (yJ2_getChar_3b067, cJ2_getChar_3b067, 2, some .char, [])
abbrev m_J2_length_9d52b : MT := (yJ2_length_9d52b, cJ2_length_9d52b, 1, some .int, [])
abbrev m_J2_coderFromArrayLen_85cad : MT := (yJ2_coderFromArrayLen_85cad, cJ2_coderFromArrayLen_85cad, 2, some .byte, [])
abbrev m_J2_compress_39247 : MT := (yJ2_compress_39247, cJ2_compress_39247, 6, some (.array .byte), [])
abbrev m_J2_compress_5af95 : MT := (yJ2_compress_5af95, cJ2_compress_5af95, 7, some .int, [])
abbrev m_J2_fillNull_b72d1 : MT := (yJ2_fillNull_b72d1, cJ2_fillNull_b72d1, 3, none, [])
abbrev m_J2_putCharSB_b72d1 : MT := (yJ2_putCharSB_b72d1, cJ2_putCharSB_b72d1, 3, none, [])
abbrev m_J2_getChars_46870 : MT := (yJ2_getChars_46870, cJ2_getChars_46870, 5, some .int, [])
abbrev m_J2_putCharsAt_cd4e5 : MT := (yJ2_putCharsAt_cd4e5, cJ2_putCharsAt_cd4e5, 7, some .int, [])
abbrev m_J2_inflate_0e8fd : MT := (yJ2_inflate_0e8fd, cJ2_inflate_0e8fd, 6, none, [])
abbrev m_J2_getChars_ba4f3 : MT := (yJ2_getChars_ba4f3, cJ2_getChars_ba4f3, 7, some .int, [])
abbrev m_J2_checkIndex_2214a : MT := (yJ2_checkIndex_2214a, cJ2_checkIndex_2214a, 2, none, [])
abbrev m_J2_checkBoundsBeginEnd_d044e : MT := (yJ2_checkBoundsBeginEnd_d044e, cJ2_checkBoundsBeginEnd_d044e, 3, none, [])
abbrev m_J2_checkBoundsOffCount_d044e : MT := (yJ2_checkBoundsOffCount_d044e, cJ2_checkBoundsOffCount_d044e, 3, none, [])
abbrev m_Jxa1e45_init_da8c8 : MT := (yJxa1e45_init_da8c8, cJxa1e45_init_da8c8, 1, none, [])
abbrev m_Jxc12de_init_da8c8 : MT := (yJxc12de_init_da8c8, cJxc12de_init_da8c8, 1, none, [])
abbrev m_Jx4a65c_init_da8c8 : MT := (yJx4a65c_init_da8c8, cJx4a65c_init_da8c8, 1, none, [])
abbrev m_Jx4a65c_grow_92f84 : MT := (yJx4a65c_grow_92f84, cJx4a65c_grow_92f84, 4, some (.array (.object "java/lang/Object")), [])
abbrev m_Jx4a65c_grow_d5877 : MT := (yJx4a65c_grow_d5877, cJx4a65c_grow_d5877, 1, some (.array (.object "java/lang/Object")), [])
abbrev m_Jx4a65c_size_8abf5 : MT := (yJx4a65c_size_8abf5, cJx4a65c_size_8abf5, 1, some .int, [])
abbrev m_Jx4a65c_isEmpty_aae02 : MT := (yJx4a65c_isEmpty_aae02, cJx4a65c_isEmpty_aae02, 1, some .boolean, [])
abbrev m_Jx4a65c_elementData_915e3 : MT := (yJx4a65c_elementData_915e3, cJx4a65c_elementData_915e3, 2, some (.object "java/lang/Object"), [])
abbrev m_Jx4a65c_get_915e3 : MT := (yJx4a65c_get_915e3, cJx4a65c_get_915e3, 2, some (.object "java/lang/Object"), [])
abbrev m_Jx4a65c_add_72be8 : MT := (yJx4a65c_add_72be8, cJx4a65c_add_72be8, 4, none, [])
abbrev m_Jx4a65c_add_9ea2d : MT := (yJx4a65c_add_9ea2d, cJx4a65c_add_9ea2d, 2, some .boolean, [])
abbrev m_Jx4a65c_add_7a177 : MT := (yJx4a65c_add_7a177, cJx4a65c_add_7a177, 5, none, [])
abbrev m_Jx4a65c_remove_915e3 : MT := (yJx4a65c_remove_915e3, cJx4a65c_remove_915e3, 4, some (.object "java/lang/Object"), [])
abbrev m_Jx4a65c_fastRemove_b59b0 : MT := (yJx4a65c_fastRemove_b59b0, cJx4a65c_fastRemove_b59b0, 4, none, [])
abbrev m_Jx4a65c_clear_da8c8 : MT := (yJx4a65c_clear_da8c8, cJx4a65c_clear_da8c8, 4, none, [])
abbrev m_Jx4a65c_rangeCheckForAdd_d00df : MT := (yJx4a65c_rangeCheckForAdd_d00df, cJx4a65c_rangeCheckForAdd_d00df, 2, none, [])
abbrev m_Jx4a65c_outOfBoundsMsg_b52d3 : MT := (yJx4a65c_outOfBoundsMsg_b52d3, cJx4a65c_outOfBoundsMsg_b52d3, 2, some (.object "java/lang/String"), [])
abbrev m_J7_rangeCheck_23922 : MT := (yJ7_rangeCheck_23922, cJ7_rangeCheck_23922, 3, none, [])
abbrev m_J7_fill_eb02e : MT := (yJ7_fill_eb02e, cJ7_fill_eb02e, 5, none, [])
abbrev m_J7_copyOf_1904c : MT := (yJ7_copyOf_1904c, cJ7_copyOf_1904c, 2, some (.array (.object "java/lang/Object")), [])
abbrev m_J7_copyOf_6403c : MT := (yJ7_copyOf_6403c, cJ7_copyOf_6403c, 4, some (.array (.object "java/lang/Object")), [])
abbrev m_J7_copyOf_9075b : MT := (yJ7_copyOf_9075b, cJ7_copyOf_9075b, 3, some (.array .byte), [])
abbrev m_J7_copyOf_59c91 : MT := (yJ7_copyOf_59c91, cJ7_copyOf_59c91, 3, some (.array .int), [])
abbrev m_J7_checkLength_df160 : MT := (yJ7_checkLength_df160, cJ7_checkLength_df160, 2, none, [])
abbrev m_J7_copyOfRange_39247 : MT := (yJ7_copyOfRange_39247, cJ7_copyOfRange_39247, 3, some (.array .byte), [])
abbrev m_J7_copyOfRangeByte_39247 : MT := (yJ7_copyOfRangeByte_39247, cJ7_copyOfRangeByte_39247, 5, some (.array .byte), [])
abbrev m_J15_checkIndex_7cf53 : MT := (yJ15_checkIndex_7cf53, cJ15_checkIndex_7cf53, 2, some .int, [])
abbrev m_J8_newLength_cabcc : MT := (yJ8_newLength_cabcc, cJ8_newLength_cabcc, 4, some .int, [])
abbrev m_J8_hugeLength_7cf53 : MT := (yJ8_hugeLength_7cf53, cJ8_hugeLength_7cf53, 3, some .int, [])
abbrev m_J3_checkIndex_8e157 : MT := (yJ3_checkIndex_8e157, cJ3_checkIndex_8e157, 3, some .int, [])
abbrev m_J3_checkFromToIndex_8c36e : MT := (yJ3_checkFromToIndex_8c36e, cJ3_checkFromToIndex_8c36e, 4, some .int, [])
abbrev m_J3_checkFromIndexSize_8c36e : MT := (yJ3_checkFromIndexSize_8c36e, cJ3_checkFromIndexSize_8c36e, 4, some .int, [])
abbrev m_L_type : MT := (yL_type, cL_type, 4, some .int, [(0, 9, 12, 13), (0, 9, 15, 15)])
abbrev m_L_add : MT := (yL_add, cL_add, 4, some .int, [(0, 9, 12, 13), (0, 9, 15, 20), (0, 9, 18, 15)])
abbrev m_L_twin : MT := (yL_twin, cL_twin, 5, some .int, [(0, 10, 13, 26), (0, 10, 17, 13)])
abbrev m_L_areTwins : MT := (yL_areTwins, cL_areTwins, 5, some .int, [(0, 17, 20, 26)])
abbrev m_L_wordAt : MT := (yL_wordAt, cL_wordAt, 5, some .int, [(0, 10, 13, 26), (0, 10, 17, 35)])
abbrev m_L_level : MT := (yL_level, cL_level, 4, some .int, [(0, 9, 12, 26)])
abbrev m_L_levelAnew : MT := (yL_levelAnew, cL_levelAnew, 4, some .int, [(0, 9, 12, 26)])
abbrev m_L_kind : MT := (yL_kind, cL_kind, 4, some .int, [(0, 9, 12, 26)])
abbrev m_L_search : MT := (yL_search, cL_search, 3, some .int, [(0, 8, 11, 20)])
abbrev m_L_hitAt : MT := (yL_hitAt, cL_hitAt, 4, some .int, [(0, 9, 12, 35)])
abbrev m_L_rankAt : MT := (yL_rankAt, cL_rankAt, 4, some .int, [(0, 9, 12, 35)])
abbrev m_L_nextWeek : MT := (yL_nextWeek, cL_nextWeek, 3, some .int, [(0, 8, 11, 15)])
abbrev m_L_plan : MT := (yL_plan, cL_plan, 6, some .int, [(0, 12, 15, 13), (0, 12, 19, 15)])
abbrev m_L_drop : MT := (yL_drop, cL_drop, 4, some .int, [(0, 9, 12, 26), (0, 9, 15, 20)])
abbrev m_L_held : MT := (yL_held, cL_held, 4, some .int, [(0, 9, 12, 26)])
abbrev m_L_heldAt : MT := (yL_heldAt, cL_heldAt, 5, some .int, [(0, 10, 13, 26), (0, 10, 17, 35)])
abbrev m_L_lacks : MT := (yL_lacks, cL_lacks, 4, some .int, [(0, 9, 12, 26)])
abbrev m_L_isFree : MT := (yL_isFree, cL_isFree, 4, some .int, [(0, 16, 19, 26)])
abbrev m_L_quiz : MT := (yL_quiz, cL_quiz, 7, some .int, [(0, 14, 17, 13), (0, 14, 21, 35), (0, 14, 25, 15)])
abbrev m_L_quizOf : MT := (yL_quizOf, cL_quizOf, 4, some .int, [(0, 9, 12, 26), (0, 9, 15, 20), (0, 9, 18, 15)])
abbrev m_L_size : MT := (yL_size, cL_size, 4, some .int, [(0, 9, 12, 26)])
abbrev m_L_questionAt : MT := (yL_questionAt, cL_questionAt, 5, some .int, [(0, 10, 13, 26), (0, 10, 17, 35)])
abbrev m_L_stateOf : MT := (yL_stateOf, cL_stateOf, 4, some .int, [(0, 9, 12, 26)])
abbrev m_L_print : MT := (yL_print, cL_print, 3, some .int, [(0, 8, 11, 15), (0, 8, 14, 35)])
abbrev m_L_cancel : MT := (yL_cancel, cL_cancel, 4, some .int, [(0, 9, 12, 26), (0, 9, 15, 20)])
abbrev m_L_answer : MT := (yL_answer, cL_answer, 6, some .int, [(0, 12, 15, 26), (0, 12, 19, 20), (0, 12, 23, 35)])
abbrev m_L_textOf : MT := (yL_textOf, cL_textOf, 5, some .int, [(0, 10, 13, 26), (0, 10, 17, 35)])
abbrev m_L_rightShare : MT := (yL_rightShare, cL_rightShare, 3, some .int, [(0, 8, 11, 114)])
abbrev m_L_meanLevel : MT := (yL_meanLevel, cL_meanLevel, 3, some .int, [(0, 7, 10, 114)])
abbrev m_L_law : MT := (yL_law, cL_law, 9, some .boolean, [])
theorem n_RX0_7 : Nw RX0 7 4 3 := ⟨_, _, _, cl_4, (gwi 894 (by decide +kernel) (by decide +kernel)), (gwi 42 (by decide +kernel) (by decide +kernel)), (gwi 4 (by decide +kernel) (by decide +kernel)), by decide⟩
theorem c_RX0_9 : CaI RX0 9 m_Jx4a65c_init_da8c8 0 := ⟨⟨(gwi 895 (by decide +kernel) (by decide +kernel)), (gwi 4 (by decide +kernel) (by decide +kernel)), (gwi 45 (by decide +kernel) (by decide +kernel)), by decide, by decide +kernel, by decide⟩, (gwi 44 (by decide +kernel) (by decide +kernel)), rfl⟩
theorem f_RX0_10 : Fl RX0 10 5 3 (.object "java/util/ArrayList") true := ⟨_, _, _, _, "Quizspool$Plan", cl_5, by omega, (gwi 901 (by decide +kernel) (by decide +kernel)), Or.inl rfl, rfl, rfl, fun _ => rfl⟩
theorem fg_RX0_10 : FlG RX0 10 5 3 := f_RX0_10.g
theorem f_RX0_16 : Fl RX0 16 5 0 (.int) true := ⟨_, _, _, _, "Quizspool$Plan", cl_5, by omega, (gwi 896 (by decide +kernel) (by decide +kernel)), Or.inl rfl, rfl, rfl, fun _ => rfl⟩
theorem fg_RX0_16 : FlG RX0 16 5 0 := f_RX0_16.g
theorem f_RX0_20 : Fl RX0 20 5 1 (.char) true := ⟨_, _, _, _, "Quizspool$Plan", cl_5, by omega, (gwi 898 (by decide +kernel) (by decide +kernel)), Or.inl rfl, rfl, rfl, fun _ => rfl⟩
theorem fg_RX0_20 : FlG RX0 20 5 1 := f_RX0_20.g
theorem f_RX0_24 : Fl RX0 24 5 2 (.int) true := ⟨_, _, _, _, "Quizspool$Plan", cl_5, by omega, (gwi 900 (by decide +kernel) (by decide +kernel)), Or.inl rfl, rfl, rfl, fun _ => rfl⟩
theorem fg_RX0_24 : FlG RX0 24 5 2 := f_RX0_24.g
theorem c_RX0_27 : CaV RX0 27 m_Jx4a65c_size_8abf5 0 4 := ⟨⟨(gwi 522 (by decide +kernel) (by decide +kernel)), (gwi 4 (by decide +kernel) (by decide +kernel)), (gwi 156 (by decide +kernel) (by decide +kernel)), by decide, by decide +kernel, by decide⟩, (gwi 154 (by decide +kernel) (by decide +kernel)), by omega, _, rfl, Or.inl (gwi 155 (by decide +kernel) (by decide +kernel))⟩
theorem f_RX1_9 : Fl RX1 9 6 4 (.array .boolean) true := ⟨_, _, _, _, "Quizspool$Question", cl_6, by omega, (gwi 399 (by decide +kernel) (by decide +kernel)), Or.inl rfl, rfl, rfl, fun _ => rfl⟩
theorem fg_RX1_9 : FlG RX1 9 6 4 := f_RX1_9.g
theorem f_RX1_15 : Fl RX1 15 6 10 (.int) false := ⟨_, _, _, _, "Quizspool$Question", cl_6, by omega, (gwi 406 (by decide +kernel) (by decide +kernel)), Or.inl rfl, rfl, rfl, fun q => nomatch q⟩
theorem fg_RX1_15 : FlG RX1 15 6 10 := f_RX1_15.g
theorem f_RX1_19 : Fl RX1 19 6 0 (.int) true := ⟨_, _, _, _, "Quizspool$Question", cl_6, by omega, (gwi 392 (by decide +kernel) (by decide +kernel)), Or.inl rfl, rfl, rfl, fun _ => rfl⟩
theorem fg_RX1_19 : FlG RX1 19 6 0 := f_RX1_19.g
theorem f_RX1_22 : Fl RX1 22 6 1 (.array .int) true := ⟨_, _, _, _, "Quizspool$Question", cl_6, by omega, (gwi 394 (by decide +kernel) (by decide +kernel)), Or.inl rfl, rfl, rfl, fun _ => rfl⟩
theorem fg_RX1_22 : FlG RX1 22 6 1 := f_RX1_22.g
theorem f_RX1_26 : Fl RX1 26 6 2 (.int) true := ⟨_, _, _, _, "Quizspool$Question", cl_6, by omega, (gwi 396 (by decide +kernel) (by decide +kernel)), Or.inl rfl, rfl, rfl, fun _ => rfl⟩
theorem fg_RX1_26 : FlG RX1 26 6 2 := f_RX1_26.g
theorem f_RX1_29 : Fl RX1 29 6 3 (.int) false := ⟨_, _, _, _, "Quizspool$Question", cl_6, by omega, (gwi 397 (by decide +kernel) (by decide +kernel)), Or.inl rfl, rfl, rfl, fun q => nomatch q⟩
theorem fg_RX1_29 : FlG RX1 29 6 3 := f_RX1_29.g
theorem f_RX1_32 : Fl RX1 32 6 6 (.int) false := ⟨_, _, _, _, "Quizspool$Question", cl_6, by omega, (gwi 401 (by decide +kernel) (by decide +kernel)), Or.inl rfl, rfl, rfl, fun q => nomatch q⟩
theorem fg_RX1_32 : FlG RX1 32 6 6 := f_RX1_32.g
theorem f_RX1_35 : Fl RX1 35 6 5 (.int) false := ⟨_, _, _, _, "Quizspool$Question", cl_6, by omega, (gwi 400 (by decide +kernel) (by decide +kernel)), Or.inl rfl, rfl, rfl, fun q => nomatch q⟩
theorem fg_RX1_35 : FlG RX1 35 6 5 := f_RX1_35.g
theorem c_RX1_38 : CaS RX1 38 m_X1_shifted 2 := ⟨⟨(gwi 197 (by decide +kernel) (by decide +kernel)), (gwi 16 (by decide +kernel) (by decide +kernel)), (gwi 199 (by decide +kernel) (by decide +kernel)), by decide, by decide +kernel, by decide⟩, (gwi 198 (by decide +kernel) (by decide +kernel))⟩
theorem c_RX1_42 : CaS RX1 42 m_J9_max_7cf53 2 := ⟨⟨(gwi 200 (by decide +kernel) (by decide +kernel)), (gwi 18 (by decide +kernel) (by decide +kernel)), (gwi 202 (by decide +kernel) (by decide +kernel)), by decide, by decide +kernel, by decide⟩, (gwi 201 (by decide +kernel) (by decide +kernel))⟩
theorem c_RX1_48 : CaS RX1 48 m_J9_min_7cf53 2 := ⟨⟨(gwi 203 (by decide +kernel) (by decide +kernel)), (gwi 18 (by decide +kernel) (by decide +kernel)), (gwi 205 (by decide +kernel) (by decide +kernel)), by decide, by decide +kernel, by decide⟩, (gwi 204 (by decide +kernel) (by decide +kernel))⟩
theorem n_RX2_9 : Nw RX2 9 4 3 := ⟨_, _, _, cl_4, (gwi 986 (by decide +kernel) (by decide +kernel)), (gwi 42 (by decide +kernel) (by decide +kernel)), (gwi 4 (by decide +kernel) (by decide +kernel)), by decide⟩
theorem c_RX2_11 : CaI RX2 11 m_Jx4a65c_init_da8c8 0 := ⟨⟨(gwi 987 (by decide +kernel) (by decide +kernel)), (gwi 4 (by decide +kernel) (by decide +kernel)), (gwi 45 (by decide +kernel) (by decide +kernel)), by decide, by decide +kernel, by decide⟩, (gwi 44 (by decide +kernel) (by decide +kernel)), rfl⟩
theorem f_RX2_12 : Fl RX2 12 7 0 (.object "java/util/ArrayList") true := ⟨_, _, _, _, "Quizspool$Sheet", cl_7, by omega, (gwi 992 (by decide +kernel) (by decide +kernel)), Or.inl rfl, rfl, rfl, fun _ => rfl⟩
theorem fg_RX2_12 : FlG RX2 12 7 0 := f_RX2_12.g
theorem f_RX2_18 : Fl RX2 18 7 2 (.char) false := ⟨_, _, _, _, "Quizspool$Sheet", cl_7, by omega, (gwi 995 (by decide +kernel) (by decide +kernel)), Or.inl rfl, rfl, rfl, fun q => nomatch q⟩
theorem fg_RX2_18 : FlG RX2 18 7 2 := f_RX2_18.g
theorem c_RX2_22 : CaV RX2 22 m_Jx4a65c_size_8abf5 0 4 := ⟨⟨(gwi 988 (by decide +kernel) (by decide +kernel)), (gwi 4 (by decide +kernel) (by decide +kernel)), (gwi 156 (by decide +kernel) (by decide +kernel)), by decide, by decide +kernel, by decide⟩, (gwi 154 (by decide +kernel) (by decide +kernel)), by omega, _, rfl, Or.inl (gwi 155 (by decide +kernel) (by decide +kernel))⟩
theorem c_RX2_26 : CaV RX2 26 m_Jx4a65c_get_915e3 1 4 := ⟨⟨(gwi 989 (by decide +kernel) (by decide +kernel)), (gwi 4 (by decide +kernel) (by decide +kernel)), (gwi 160 (by decide +kernel) (by decide +kernel)), by decide, by decide +kernel, by decide⟩, (gwi 158 (by decide +kernel) (by decide +kernel)), by omega, _, rfl, Or.inl (gwi 159 (by decide +kernel) (by decide +kernel))⟩
theorem k_RX2_30 : Ck RX2 30 6 := ⟨_, _, _, _, cl_6, (gwi 990 (by decide +kernel) (by decide +kernel))⟩
theorem c_RX2_32 : CaV RX2 32 m_Jx4a65c_add_9ea2d 1 4 := ⟨⟨(gwi 991 (by decide +kernel) (by decide +kernel)), (gwi 4 (by decide +kernel) (by decide +kernel)), (gwi 435 (by decide +kernel) (by decide +kernel)), by decide, by decide +kernel, by decide⟩, (gwi 433 (by decide +kernel) (by decide +kernel)), by omega, _, rfl, Or.inl (gwi 434 (by decide +kernel) (by decide +kernel))⟩
theorem f_RX2_36 : Fl RX2 36 7 1 (.array .boolean) true := ⟨_, _, _, _, "Quizspool$Sheet", cl_7, by omega, (gwi 994 (by decide +kernel) (by decide +kernel)), Or.inl rfl, rfl, rfl, fun _ => rfl⟩
theorem fg_RX2_36 : FlG RX2 36 7 1 := f_RX2_36.g
theorem f_RX3_9 : Fl RX3 9 8 0 (.array .int) true := ⟨_, _, _, _, "Quizspool", cl_8, by omega, (gwi 101 (by decide +kernel) (by decide +kernel)), Or.inl rfl, rfl, rfl, fun _ => rfl⟩
theorem fg_RX3_9 : FlG RX3 9 8 0 := f_RX3_9.g
theorem n_RX3_13 : Nw RX3 13 4 3 := ⟨_, _, _, cl_4, (gwi 41 (by decide +kernel) (by decide +kernel)), (gwi 42 (by decide +kernel) (by decide +kernel)), (gwi 4 (by decide +kernel) (by decide +kernel)), by decide⟩
theorem c_RX3_15 : CaI RX3 15 m_Jx4a65c_init_da8c8 0 := ⟨⟨(gwi 43 (by decide +kernel) (by decide +kernel)), (gwi 4 (by decide +kernel) (by decide +kernel)), (gwi 45 (by decide +kernel) (by decide +kernel)), by decide, by decide +kernel, by decide⟩, (gwi 44 (by decide +kernel) (by decide +kernel)), rfl⟩
theorem f_RX3_16 : Fl RX3 16 8 2 (.object "java/util/ArrayList") true := ⟨_, _, _, _, "Quizspool", cl_8, by omega, (gwi 103 (by decide +kernel) (by decide +kernel)), Or.inl rfl, rfl, rfl, fun _ => rfl⟩
theorem fg_RX3_16 : FlG RX3 16 8 2 := f_RX3_16.g
theorem f_RX3_20 : Fl RX3 20 8 3 (.object "java/util/ArrayList") true := ⟨_, _, _, _, "Quizspool", cl_8, by omega, (gwi 104 (by decide +kernel) (by decide +kernel)), Or.inl rfl, rfl, rfl, fun _ => rfl⟩
theorem fg_RX3_20 : FlG RX3 20 8 3 := f_RX3_20.g
theorem f_RX3_23 : Fl RX3 23 8 4 (.object "java/util/ArrayList") true := ⟨_, _, _, _, "Quizspool", cl_8, by omega, (gwi 105 (by decide +kernel) (by decide +kernel)), Or.inl rfl, rfl, rfl, fun _ => rfl⟩
theorem fg_RX3_23 : FlG RX3 23 8 4 := f_RX3_23.g
theorem f_RX3_26 : Fl RX3 26 8 5 (.object "java/util/ArrayList") true := ⟨_, _, _, _, "Quizspool", cl_8, by omega, (gwi 106 (by decide +kernel) (by decide +kernel)), Or.inl rfl, rfl, rfl, fun _ => rfl⟩
theorem fg_RX3_26 : FlG RX3 26 8 5 := f_RX3_26.g
theorem f_RX3_29 : Fl RX3 29 8 10 (.object "java/util/ArrayList") true := ⟨_, _, _, _, "Quizspool", cl_8, by omega, (gwi 111 (by decide +kernel) (by decide +kernel)), Or.inl rfl, rfl, rfl, fun _ => rfl⟩
theorem fg_RX3_29 : FlG RX3 29 8 10 := f_RX3_29.g
theorem f_RX3_32 : Fl RX3 32 8 11 (.object "java/util/ArrayList") true := ⟨_, _, _, _, "Quizspool", cl_8, by omega, (gwi 112 (by decide +kernel) (by decide +kernel)), Or.inl rfl, rfl, rfl, fun _ => rfl⟩
theorem fg_RX3_32 : FlG RX3 32 8 11 := f_RX3_32.g
theorem n_RX3_35 : Nw RX3 35 1 4 := ⟨_, _, _, cl_1, (gwi 68 (by decide +kernel) (by decide +kernel)), (gwi 69 (by decide +kernel) (by decide +kernel)), (gwi 6 (by decide +kernel) (by decide +kernel)), by decide⟩
theorem c_RX3_37 : CaI RX3 37 m_J4_init_da8c8 0 := ⟨⟨(gwi 70 (by decide +kernel) (by decide +kernel)), (gwi 6 (by decide +kernel) (by decide +kernel)), (gwi 72 (by decide +kernel) (by decide +kernel)), by decide, by decide +kernel, by decide⟩, (gwi 71 (by decide +kernel) (by decide +kernel)), rfl⟩
theorem f_RX3_38 : Fl RX3 38 8 12 (.object "java/lang/StringBuilder") true := ⟨_, _, _, _, "Quizspool", cl_8, by omega, (gwi 113 (by decide +kernel) (by decide +kernel)), Or.inl rfl, rfl, rfl, fun _ => rfl⟩
theorem fg_RX3_38 : FlG RX3 38 8 12 := f_RX3_38.g
theorem c_RX3_42 : CaS RX3 42 m_X3_isOutside 3 := ⟨⟨(gwi 312 (by decide +kernel) (by decide +kernel)), (gwi 1 (by decide +kernel) (by decide +kernel)), (gwi 314 (by decide +kernel) (by decide +kernel)), by decide, by decide +kernel, by decide⟩, (gwi 313 (by decide +kernel) (by decide +kernel))⟩
theorem f_RX3_53 : Fl RX3 53 8 1 (.int) false := ⟨_, _, _, _, "Quizspool", cl_8, by omega, (gwi 102 (by decide +kernel) (by decide +kernel)), Or.inl rfl, rfl, rfl, fun q => nomatch q⟩
theorem fg_RX3_53 : FlG RX3 53 8 1 := f_RX3_53.g
theorem c_RX3_69 : CaV RX3 69 m_Jx4a65c_size_8abf5 0 4 := ⟨⟨(gwi 153 (by decide +kernel) (by decide +kernel)), (gwi 4 (by decide +kernel) (by decide +kernel)), (gwi 156 (by decide +kernel) (by decide +kernel)), by decide, by decide +kernel, by decide⟩, (gwi 154 (by decide +kernel) (by decide +kernel)), by omega, _, rfl, Or.inl (gwi 155 (by decide +kernel) (by decide +kernel))⟩
theorem n_RX3_75 : Nw RX3 75 6 11 := ⟨_, _, _, cl_6, (gwi 184 (by decide +kernel) (by decide +kernel)), (gwi 373 (by decide +kernel) (by decide +kernel)), (gwi 16 (by decide +kernel) (by decide +kernel)), by decide⟩
theorem c_RX3_77 : CaS RX3 77 m_J7_copyOf_59c91 2 := ⟨⟨(gwi 374 (by decide +kernel) (by decide +kernel)), (gwi 17 (by decide +kernel) (by decide +kernel)), (gwi 376 (by decide +kernel) (by decide +kernel)), by decide, by decide +kernel, by decide⟩, (gwi 375 (by decide +kernel) (by decide +kernel))⟩
theorem c_RX3_83 : CaI RX3 83 m_X1_init 3 := ⟨⟨(gwi 388 (by decide +kernel) (by decide +kernel)), (gwi 16 (by decide +kernel) (by decide +kernel)), (gwi 390 (by decide +kernel) (by decide +kernel)), by decide, by decide +kernel, by decide⟩, (gwi 389 (by decide +kernel) (by decide +kernel)), rfl⟩
theorem c_RX3_86 : CaV RX3 86 m_Jx4a65c_add_9ea2d 1 4 := ⟨⟨(gwi 432 (by decide +kernel) (by decide +kernel)), (gwi 4 (by decide +kernel) (by decide +kernel)), (gwi 435 (by decide +kernel) (by decide +kernel)), by decide, by decide +kernel, by decide⟩, (gwi 433 (by decide +kernel) (by decide +kernel)), by omega, _, rfl, Or.inl (gwi 434 (by decide +kernel) (by decide +kernel))⟩
theorem c_RX3_90 : CaV RX3 90 m_X3_settlePlans 0 8 := ⟨⟨(gwi 487 (by decide +kernel) (by decide +kernel)), (gwi 1 (by decide +kernel) (by decide +kernel)), (gwi 490 (by decide +kernel) (by decide +kernel)), by decide, by decide +kernel, by decide⟩, (gwi 489 (by decide +kernel) (by decide +kernel)), by omega, _, rfl, Or.inl (gwp 7 (by decide +kernel) (by decide +kernel))⟩
theorem c_RX3_93 : CaV RX3 93 m_X3_questionOf 1 8 := ⟨⟨(gwi 562 (by decide +kernel) (by decide +kernel)), (gwi 1 (by decide +kernel) (by decide +kernel)), (gwi 565 (by decide +kernel) (by decide +kernel)), by decide, by decide +kernel, by decide⟩, (gwi 564 (by decide +kernel) (by decide +kernel)), by omega, _, rfl, Or.inl (gwp 13 (by decide +kernel) (by decide +kernel))⟩
theorem f_RX3_99 : Fl RX3 99 6 6 (.int) false := ⟨_, _, _, _, "Quizspool$Question", cl_6, by omega, (gwi 402 (by decide +kernel) (by decide +kernel)), Or.inl rfl, rfl, rfl, fun q => nomatch q⟩
theorem fg_RX3_99 : FlG RX3 99 6 6 := f_RX3_99.g
theorem c_RX3_102 : CaV RX3 102 m_X3_joinFamilies 2 8 := ⟨⟨(gwi 580 (by decide +kernel) (by decide +kernel)), (gwi 1 (by decide +kernel) (by decide +kernel)), (gwi 583 (by decide +kernel) (by decide +kernel)), by decide, by decide +kernel, by decide⟩, (gwi 582 (by decide +kernel) (by decide +kernel)), by omega, _, rfl, Or.inl (gwp 14 (by decide +kernel) (by decide +kernel))⟩
theorem c_RX3_106 : CaV RX3 106 m_X3_countTwins 1 8 := ⟨⟨(gwi 584 (by decide +kernel) (by decide +kernel)), (gwi 1 (by decide +kernel) (by decide +kernel)), (gwi 587 (by decide +kernel) (by decide +kernel)), by decide, by decide +kernel, by decide⟩, (gwi 586 (by decide +kernel) (by decide +kernel)), by omega, _, rfl, Or.inl (gwp 15 (by decide +kernel) (by decide +kernel))⟩
theorem fg_RX3_110 : FlG RX3 110 6 1 := ⟨_, _, _, _, "Quizspool$Question", cl_6, by omega, (gwi 395 (by decide +kernel) (by decide +kernel)), Or.inl rfl⟩
theorem f_RX3_116 : Fl RX3 116 6 3 (.int) false := ⟨_, _, _, _, "Quizspool$Question", cl_6, by omega, (gwi 398 (by decide +kernel) (by decide +kernel)), Or.inl rfl, rfl, rfl, fun q => nomatch q⟩
theorem fg_RX3_116 : FlG RX3 116 6 3 := f_RX3_116.g
theorem c_RX3_119 : CaV RX3 119 m_X1_levelByAnswers 0 6 := ⟨⟨(gwi 193 (by decide +kernel) (by decide +kernel)), (gwi 16 (by decide +kernel) (by decide +kernel)), (gwi 196 (by decide +kernel) (by decide +kernel)), by decide, by decide +kernel, by decide⟩, (gwi 194 (by decide +kernel) (by decide +kernel)), by omega, _, rfl, Or.inl (gwi 195 (by decide +kernel) (by decide +kernel))⟩
theorem c_RX3_122 : CaV RX3 122 m_X1_kindNow 0 6 := ⟨⟨(gwi 296 (by decide +kernel) (by decide +kernel)), (gwi 16 (by decide +kernel) (by decide +kernel)), (gwi 299 (by decide +kernel) (by decide +kernel)), by decide, by decide +kernel, by decide⟩, (gwi 297 (by decide +kernel) (by decide +kernel)), by omega, _, rfl, Or.inl (gwi 298 (by decide +kernel) (by decide +kernel))⟩
theorem c_RX3_126 : CaV RX3 126 m_X3_wordsOfRow 0 8 := ⟨⟨(gwi 631 (by decide +kernel) (by decide +kernel)), (gwi 1 (by decide +kernel) (by decide +kernel)), (gwi 634 (by decide +kernel) (by decide +kernel)), by decide, by decide +kernel, by decide⟩, (gwi 633 (by decide +kernel) (by decide +kernel)), by omega, _, rfl, Or.inl (gwp 16 (by decide +kernel) (by decide +kernel))⟩
theorem c_RX3_129 : CaV RX3 129 m_Jx4a65c_clear_da8c8 0 4 := ⟨⟨(gwi 510 (by decide +kernel) (by decide +kernel)), (gwi 4 (by decide +kernel) (by decide +kernel)), (gwi 513 (by decide +kernel) (by decide +kernel)), by decide, by decide +kernel, by decide⟩, (gwi 511 (by decide +kernel) (by decide +kernel)), by omega, _, rfl, Or.inl (gwi 512 (by decide +kernel) (by decide +kernel))⟩
theorem c_RX3_132 : CaV RX3 132 m_Jx4a65c_get_915e3 1 4 := ⟨⟨(gwi 157 (by decide +kernel) (by decide +kernel)), (gwi 4 (by decide +kernel) (by decide +kernel)), (gwi 160 (by decide +kernel) (by decide +kernel)), by decide, by decide +kernel, by decide⟩, (gwi 158 (by decide +kernel) (by decide +kernel)), by omega, _, rfl, Or.inl (gwi 159 (by decide +kernel) (by decide +kernel))⟩
theorem k_RX3_75 : Ck RX3 75 6 := ⟨_, _, _, _, cl_6, (gwi 184 (by decide +kernel) (by decide +kernel))⟩
theorem c_RX3_136 : CaV RX3 136 m_X1_rankFor 1 6 := ⟨⟨(gwi 635 (by decide +kernel) (by decide +kernel)), (gwi 16 (by decide +kernel) (by decide +kernel)), (gwi 638 (by decide +kernel) (by decide +kernel)), by decide, by decide +kernel, by decide⟩, (gwi 636 (by decide +kernel) (by decide +kernel)), by omega, _, rfl, Or.inl (gwi 637 (by decide +kernel) (by decide +kernel))⟩
theorem f_RX3_140 : Fl RX3 140 6 7 (.int) false := ⟨_, _, _, _, "Quizspool$Question", cl_6, by omega, (gwi 403 (by decide +kernel) (by decide +kernel)), Or.inl rfl, rfl, rfl, fun q => nomatch q⟩
theorem fg_RX3_140 : FlG RX3 140 6 7 := f_RX3_140.g
theorem c_RX3_143 : CaV RX3 143 m_X3_placeAmongHits 1 8 := ⟨⟨(gwi 639 (by decide +kernel) (by decide +kernel)), (gwi 1 (by decide +kernel) (by decide +kernel)), (gwi 642 (by decide +kernel) (by decide +kernel)), by decide, by decide +kernel, by decide⟩, (gwi 641 (by decide +kernel) (by decide +kernel)), by omega, _, rfl, Or.inl (gwp 17 (by decide +kernel) (by decide +kernel))⟩
theorem c_RX3_146 : CaV RX3 146 m_Jx4a65c_add_7a177 2 4 := ⟨⟨(gwi 643 (by decide +kernel) (by decide +kernel)), (gwi 4 (by decide +kernel) (by decide +kernel)), (gwi 646 (by decide +kernel) (by decide +kernel)), by decide, by decide +kernel, by decide⟩, (gwi 644 (by decide +kernel) (by decide +kernel)), by omega, _, rfl, Or.inl (gwi 645 (by decide +kernel) (by decide +kernel))⟩
theorem c_RX3_149 : CaV RX3 149 m_X3_hitOf 1 8 := ⟨⟨(gwi 859 (by decide +kernel) (by decide +kernel)), (gwi 1 (by decide +kernel) (by decide +kernel)), (gwi 862 (by decide +kernel) (by decide +kernel)), by decide, by decide +kernel, by decide⟩, (gwi 861 (by decide +kernel) (by decide +kernel)), by omega, _, rfl, Or.inl (gwp 20 (by decide +kernel) (by decide +kernel))⟩
theorem fg_RX3_152 : FlG RX3 152 6 0 := ⟨_, _, _, _, "Quizspool$Question", cl_6, by omega, (gwi 393 (by decide +kernel) (by decide +kernel)), Or.inl rfl⟩
theorem f_RX3_155 : Fl RX3 155 8 6 (.int) false := ⟨_, _, _, _, "Quizspool", cl_8, by omega, (gwi 107 (by decide +kernel) (by decide +kernel)), Or.inl rfl, rfl, rfl, fun q => nomatch q⟩
theorem fg_RX3_155 : FlG RX3 155 8 6 := f_RX3_155.g
theorem n_RX3_168 : Nw RX3 168 5 5 := ⟨_, _, _, cl_5, (gwi 210 (by decide +kernel) (by decide +kernel)), (gwi 889 (by decide +kernel) (by decide +kernel)), (gwi 29 (by decide +kernel) (by decide +kernel)), by decide⟩
theorem c_RX3_170 : CaI RX3 170 m_X0_init 3 := ⟨⟨(gwi 890 (by decide +kernel) (by decide +kernel)), (gwi 29 (by decide +kernel) (by decide +kernel)), (gwi 892 (by decide +kernel) (by decide +kernel)), by decide, by decide +kernel, by decide⟩, (gwi 891 (by decide +kernel) (by decide +kernel)), rfl⟩
theorem c_RX3_173 : CaV RX3 173 m_X3_planOf 1 8 := ⟨⟨(gwi 922 (by decide +kernel) (by decide +kernel)), (gwi 1 (by decide +kernel) (by decide +kernel)), (gwi 925 (by decide +kernel) (by decide +kernel)), by decide, by decide +kernel, by decide⟩, (gwi 924 (by decide +kernel) (by decide +kernel)), by omega, _, rfl, Or.inl (gwp 21 (by decide +kernel) (by decide +kernel))⟩
theorem f_RX3_177 : Fl RX3 177 5 4 (.boolean) false := ⟨_, _, _, _, "Quizspool$Plan", cl_5, by omega, (gwi 903 (by decide +kernel) (by decide +kernel)), Or.inl rfl, rfl, rfl, fun q => nomatch q⟩
theorem fg_RX3_177 : FlG RX3 177 5 4 := f_RX3_177.g
theorem fg_RX3_183 : FlG RX3 183 5 3 := ⟨_, _, _, _, "Quizspool$Plan", cl_5, by omega, (gwi 902 (by decide +kernel) (by decide +kernel)), Or.inl rfl⟩
theorem c_RX3_186 : CaS RX3 186 m_X3_close 1 := ⟨⟨(gwi 928 (by decide +kernel) (by decide +kernel)), (gwi 1 (by decide +kernel) (by decide +kernel)), (gwi 930 (by decide +kernel) (by decide +kernel)), by decide, by decide +kernel, by decide⟩, (gwi 929 (by decide +kernel) (by decide +kernel))⟩
theorem c_RX3_190 : CaS RX3 190 m_X3_elementOf 2 := ⟨⟨(gwi 221 (by decide +kernel) (by decide +kernel)), (gwi 1 (by decide +kernel) (by decide +kernel)), (gwi 223 (by decide +kernel) (by decide +kernel)), by decide, by decide +kernel, by decide⟩, (gwi 222 (by decide +kernel) (by decide +kernel))⟩
theorem c_RX3_194 : CaV RX3 194 m_X3_isOpen 1 8 := ⟨⟨(gwi 491 (by decide +kernel) (by decide +kernel)), (gwi 1 (by decide +kernel) (by decide +kernel)), (gwi 494 (by decide +kernel) (by decide +kernel)), by decide, by decide +kernel, by decide⟩, (gwi 493 (by decide +kernel) (by decide +kernel)), by omega, _, rfl, Or.inl (gwp 8 (by decide +kernel) (by decide +kernel))⟩
theorem c_RX3_198 : CaV RX3 198 m_X0_missing 0 5 := ⟨⟨(gwi 518 (by decide +kernel) (by decide +kernel)), (gwi 29 (by decide +kernel) (by decide +kernel)), (gwi 521 (by decide +kernel) (by decide +kernel)), by decide, by decide +kernel, by decide⟩, (gwi 519 (by decide +kernel) (by decide +kernel)), by omega, _, rfl, Or.inl (gwi 520 (by decide +kernel) (by decide +kernel))⟩
theorem c_RX3_201 : CaV RX3 201 m_X3_isAvailable 1 8 := ⟨⟨(gwi 527 (by decide +kernel) (by decide +kernel)), (gwi 1 (by decide +kernel) (by decide +kernel)), (gwi 530 (by decide +kernel) (by decide +kernel)), by decide, by decide +kernel, by decide⟩, (gwi 529 (by decide +kernel) (by decide +kernel)), by omega, _, rfl, Or.inl (gwp 12 (by decide +kernel) (by decide +kernel))⟩
theorem c_RX3_209 : CaV RX3 209 m_X3_drawQuestions 4 8 := ⟨⟨(gwi 968 (by decide +kernel) (by decide +kernel)), (gwi 1 (by decide +kernel) (by decide +kernel)), (gwi 971 (by decide +kernel) (by decide +kernel)), by decide, by decide +kernel, by decide⟩, (gwi 970 (by decide +kernel) (by decide +kernel)), by omega, _, rfl, Or.inl (gwp 22 (by decide +kernel) (by decide +kernel))⟩
theorem n_RX3_217 : Nw RX3 217 7 3 := ⟨_, _, _, cl_7, (gwi 171 (by decide +kernel) (by decide +kernel)), (gwi 981 (by decide +kernel) (by decide +kernel)), (gwi 30 (by decide +kernel) (by decide +kernel)), by decide⟩
theorem c_RX3_219 : CaI RX3 219 m_X2_init 1 := ⟨⟨(gwi 982 (by decide +kernel) (by decide +kernel)), (gwi 30 (by decide +kernel) (by decide +kernel)), (gwi 984 (by decide +kernel) (by decide +kernel)), by decide, by decide +kernel, by decide⟩, (gwi 983 (by decide +kernel) (by decide +kernel)), rfl⟩
theorem c_RX3_222 : CaV RX3 222 m_X3_spool 1 8 := ⟨⟨(gwi 1004 (by decide +kernel) (by decide +kernel)), (gwi 1 (by decide +kernel) (by decide +kernel)), (gwi 1007 (by decide +kernel) (by decide +kernel)), by decide, by decide +kernel, by decide⟩, (gwi 1006 (by decide +kernel) (by decide +kernel)), by omega, _, rfl, Or.inl (gwp 24 (by decide +kernel) (by decide +kernel))⟩
theorem fg_RX3_226 : FlG RX3 226 5 0 := ⟨_, _, _, _, "Quizspool$Plan", cl_5, by omega, (gwi 897 (by decide +kernel) (by decide +kernel)), Or.inl rfl⟩
theorem c_RX3_229 : CaV RX3 229 m_Jx4a65c_isEmpty_aae02 0 4 := ⟨⟨(gwi 1015 (by decide +kernel) (by decide +kernel)), (gwi 4 (by decide +kernel) (by decide +kernel)), (gwi 1018 (by decide +kernel) (by decide +kernel)), by decide, by decide +kernel, by decide⟩, (gwi 1016 (by decide +kernel) (by decide +kernel)), by omega, _, rfl, Or.inl (gwi 1017 (by decide +kernel) (by decide +kernel))⟩
theorem c_RX3_235 : CaV RX3 235 m_X3_sheetOf 1 8 := ⟨⟨(gwi 1027 (by decide +kernel) (by decide +kernel)), (gwi 1 (by decide +kernel) (by decide +kernel)), (gwi 1030 (by decide +kernel) (by decide +kernel)), by decide, by decide +kernel, by decide⟩, (gwi 1029 (by decide +kernel) (by decide +kernel)), by omega, _, rfl, Or.inl (gwp 25 (by decide +kernel) (by decide +kernel))⟩
theorem fg_RX3_239 : FlG RX3 239 7 0 := ⟨_, _, _, _, "Quizspool$Sheet", cl_7, by omega, (gwi 993 (by decide +kernel) (by decide +kernel)), Or.inl rfl⟩
theorem f_RX3_240 : Fl RX3 240 7 2 (.char) false := ⟨_, _, _, _, "Quizspool$Sheet", cl_7, by omega, (gwi 996 (by decide +kernel) (by decide +kernel)), Or.inl rfl, rfl, rfl, fun q => nomatch q⟩
theorem fg_RX3_240 : FlG RX3 240 7 2 := f_RX3_240.g
theorem k_RX3_217 : Ck RX3 217 7 := ⟨_, _, _, _, cl_7, (gwi 171 (by decide +kernel) (by decide +kernel))⟩
theorem f_RX3_244 : Fl RX3 244 8 7 (.boolean) false := ⟨_, _, _, _, "Quizspool", cl_8, by omega, (gwi 108 (by decide +kernel) (by decide +kernel)), Or.inl rfl, rfl, rfl, fun q => nomatch q⟩
theorem fg_RX3_244 : FlG RX3 244 8 7 := f_RX3_244.g
theorem c_RX3_249 : CaV RX3 249 m_X3_firstWaiting 0 8 := ⟨⟨(gwi 1054 (by decide +kernel) (by decide +kernel)), (gwi 1 (by decide +kernel) (by decide +kernel)), (gwi 1057 (by decide +kernel) (by decide +kernel)), by decide, by decide +kernel, by decide⟩, (gwi 1056 (by decide +kernel) (by decide +kernel)), by omega, _, rfl, Or.inl (gwp 26 (by decide +kernel) (by decide +kernel))⟩
theorem f_RX3_254 : Fl RX3 254 6 8 (.boolean) false := ⟨_, _, _, _, "Quizspool$Question", cl_6, by omega, (gwi 404 (by decide +kernel) (by decide +kernel)), Or.inl rfl, rfl, rfl, fun q => nomatch q⟩
theorem fg_RX3_254 : FlG RX3 254 6 8 := f_RX3_254.g
theorem f_RX3_257 : Fl RX3 257 6 10 (.int) false := ⟨_, _, _, _, "Quizspool$Question", cl_6, by omega, (gwi 407 (by decide +kernel) (by decide +kernel)), Or.inl rfl, rfl, rfl, fun q => nomatch q⟩
theorem fg_RX3_257 : FlG RX3 257 6 10 := f_RX3_257.g
theorem c_RX3_264 : CaV RX3 264 m_X2_markAnswered 1 7 := ⟨⟨(gwi 1075 (by decide +kernel) (by decide +kernel)), (gwi 30 (by decide +kernel) (by decide +kernel)), (gwi 1078 (by decide +kernel) (by decide +kernel)), by decide, by decide +kernel, by decide⟩, (gwi 1076 (by decide +kernel) (by decide +kernel)), by omega, _, rfl, Or.inl (gwi 1077 (by decide +kernel) (by decide +kernel))⟩
theorem c_RX3_270 : CaV RX3 270 m_X1_takeAnswer 1 6 := ⟨⟨(gwi 1080 (by decide +kernel) (by decide +kernel)), (gwi 16 (by decide +kernel) (by decide +kernel)), (gwi 1083 (by decide +kernel) (by decide +kernel)), by decide, by decide +kernel, by decide⟩, (gwi 1081 (by decide +kernel) (by decide +kernel)), by omega, _, rfl, Or.inl (gwi 1082 (by decide +kernel) (by decide +kernel))⟩
theorem f_RX3_274 : Fl RX3 274 8 8 (.int) false := ⟨_, _, _, _, "Quizspool", cl_8, by omega, (gwi 109 (by decide +kernel) (by decide +kernel)), Or.inl rfl, rfl, rfl, fun q => nomatch q⟩
theorem fg_RX3_274 : FlG RX3 274 8 8 := f_RX3_274.g
theorem f_RX3_277 : Fl RX3 277 8 9 (.int) false := ⟨_, _, _, _, "Quizspool", cl_8, by omega, (gwi 110 (by decide +kernel) (by decide +kernel)), Or.inl rfl, rfl, rfl, fun q => nomatch q⟩
theorem fg_RX3_277 : FlG RX3 277 8 9 := f_RX3_277.g
theorem c_RX3_280 : CaV RX3 280 m_X3_writeText 2 8 := ⟨⟨(gwi 1091 (by decide +kernel) (by decide +kernel)), (gwi 1 (by decide +kernel) (by decide +kernel)), (gwi 1094 (by decide +kernel) (by decide +kernel)), by decide, by decide +kernel, by decide⟩, (gwi 1093 (by decide +kernel) (by decide +kernel)), by omega, _, rfl, Or.inl (gwp 27 (by decide +kernel) (by decide +kernel))⟩
theorem c_RX3_284 : CaV RX3 284 m_J4_length_8abf5 0 1 := ⟨⟨(gwi 1168 (by decide +kernel) (by decide +kernel)), (gwi 6 (by decide +kernel) (by decide +kernel)), (gwi 810 (by decide +kernel) (by decide +kernel)), by decide, by decide +kernel, by decide⟩, (gwi 809 (by decide +kernel) (by decide +kernel)), by omega, _, rfl, Or.inl (gwi 1585 (by decide +kernel) (by decide +kernel))⟩
theorem c_RX3_289 : CaV RX3 289 m_J4_charAt_5068e 1 1 := ⟨⟨(gwi 1170 (by decide +kernel) (by decide +kernel)), (gwi 6 (by decide +kernel) (by decide +kernel)), (gwi 1173 (by decide +kernel) (by decide +kernel)), by decide, by decide +kernel, by decide⟩, (gwi 1171 (by decide +kernel) (by decide +kernel)), by omega, _, rfl, Or.inl (gwi 1172 (by decide +kernel) (by decide +kernel))⟩
theorem c_RX3_300 : CaV RX3 300 m_X3_allLevels 0 8 := ⟨⟨(gwi 1212 (by decide +kernel) (by decide +kernel)), (gwi 1 (by decide +kernel) (by decide +kernel)), (gwi 183 (by decide +kernel) (by decide +kernel)), by decide, by decide +kernel, by decide⟩, (gwi 181 (by decide +kernel) (by decide +kernel)), by omega, _, rfl, Or.inl (gwi 182 (by decide +kernel) (by decide +kernel))⟩
theorem c_RX3_304 : CaV RX3 304 m_X3_areLevelsAsAnswered 0 8 := ⟨⟨(gwi 189 (by decide +kernel) (by decide +kernel)), (gwi 1 (by decide +kernel) (by decide +kernel)), (gwi 192 (by decide +kernel) (by decide +kernel)), by decide, by decide +kernel, by decide⟩, (gwi 191 (by decide +kernel) (by decide +kernel)), by omega, _, rfl, Or.inl (gwp 0 (by decide +kernel) (by decide +kernel))⟩
theorem c_RX3_307 : CaV RX3 307 m_X3_isNoneHeldTwice 0 8 := ⟨⟨(gwi 206 (by decide +kernel) (by decide +kernel)), (gwi 1 (by decide +kernel) (by decide +kernel)), (gwi 209 (by decide +kernel) (by decide +kernel)), by decide, by decide +kernel, by decide⟩, (gwi 208 (by decide +kernel) (by decide +kernel)), by omega, _, rfl, Or.inl (gwp 1 (by decide +kernel) (by decide +kernel))⟩
theorem c_RX3_310 : CaV RX3 310 m_X3_arePlansKept 0 8 := ⟨⟨(gwi 214 (by decide +kernel) (by decide +kernel)), (gwi 1 (by decide +kernel) (by decide +kernel)), (gwi 217 (by decide +kernel) (by decide +kernel)), by decide, by decide +kernel, by decide⟩, (gwi 216 (by decide +kernel) (by decide +kernel)), by omega, _, rfl, Or.inl (gwp 2 (by decide +kernel) (by decide +kernel))⟩
theorem k_RX3_168 : Ck RX3 168 5 := ⟨_, _, _, _, cl_5, (gwi 210 (by decide +kernel) (by decide +kernel))⟩
theorem c_RX3_324 : CaS RX3 324 m_X3_letGoUnfit 1 := ⟨⟨(gwi 495 (by decide +kernel) (by decide +kernel)), (gwi 1 (by decide +kernel) (by decide +kernel)), (gwi 497 (by decide +kernel) (by decide +kernel)), by decide, by decide +kernel, by decide⟩, (gwi 496 (by decide +kernel) (by decide +kernel))⟩
theorem c_RX3_327 : CaS RX3 327 m_X3_letGoAll 1 := ⟨⟨(gwi 507 (by decide +kernel) (by decide +kernel)), (gwi 1 (by decide +kernel) (by decide +kernel)), (gwi 509 (by decide +kernel) (by decide +kernel)), by decide, by decide +kernel, by decide⟩, (gwi 508 (by decide +kernel) (by decide +kernel))⟩
theorem c_RX3_330 : CaV RX3 330 m_X3_fill 1 8 := ⟨⟨(gwi 514 (by decide +kernel) (by decide +kernel)), (gwi 1 (by decide +kernel) (by decide +kernel)), (gwi 517 (by decide +kernel) (by decide +kernel)), by decide, by decide +kernel, by decide⟩, (gwi 516 (by decide +kernel) (by decide +kernel)), by omega, _, rfl, Or.inl (gwp 10 (by decide +kernel) (by decide +kernel))⟩
theorem c_RX3_333 : CaS RX3 333 m_X3_isFit 2 := ⟨⟨(gwi 218 (by decide +kernel) (by decide +kernel)), (gwi 1 (by decide +kernel) (by decide +kernel)), (gwi 220 (by decide +kernel) (by decide +kernel)), by decide, by decide +kernel, by decide⟩, (gwi 219 (by decide +kernel) (by decide +kernel))⟩
theorem c_RX3_337 : CaV RX3 337 m_Jx4a65c_remove_915e3 1 4 := ⟨⟨(gwi 498 (by decide +kernel) (by decide +kernel)), (gwi 4 (by decide +kernel) (by decide +kernel)), (gwi 501 (by decide +kernel) (by decide +kernel)), by decide, by decide +kernel, by decide⟩, (gwi 499 (by decide +kernel) (by decide +kernel)), by omega, _, rfl, Or.inl (gwi 500 (by decide +kernel) (by decide +kernel))⟩
theorem fg_RX3_340 : FlG RX3 340 5 1 := ⟨_, _, _, _, "Quizspool$Plan", cl_5, by omega, (gwi 899 (by decide +kernel) (by decide +kernel)), Or.inl rfl⟩
theorem c_RX3_343 : CaS RX3 343 m_X3_hasRelative 3 := ⟨⟨(gwi 300 (by decide +kernel) (by decide +kernel)), (gwi 1 (by decide +kernel) (by decide +kernel)), (gwi 302 (by decide +kernel) (by decide +kernel)), by decide, by decide +kernel, by decide⟩, (gwi 301 (by decide +kernel) (by decide +kernel))⟩
theorem c_RX3_347 : CaV RX3 347 m_X3_isCandidate 3 8 := ⟨⟨(gwi 523 (by decide +kernel) (by decide +kernel)), (gwi 1 (by decide +kernel) (by decide +kernel)), (gwi 526 (by decide +kernel) (by decide +kernel)), by decide, by decide +kernel, by decide⟩, (gwi 525 (by decide +kernel) (by decide +kernel)), by omega, _, rfl, Or.inl (gwp 11 (by decide +kernel) (by decide +kernel))⟩
theorem c_RX3_351 : CaV RX3 351 m_X3_gatherCandidates 1 8 := ⟨⟨(gwi 972 (by decide +kernel) (by decide +kernel)), (gwi 1 (by decide +kernel) (by decide +kernel)), (gwi 975 (by decide +kernel) (by decide +kernel)), by decide, by decide +kernel, by decide⟩, (gwi 974 (by decide +kernel) (by decide +kernel)), by omega, _, rfl, Or.inl (gwp 23 (by decide +kernel) (by decide +kernel))⟩
theorem c_RX3_355 : CaS RX3 355 m_J9_floorMod_7cf53 2 := ⟨⟨(gwi 976 (by decide +kernel) (by decide +kernel)), (gwi 18 (by decide +kernel) (by decide +kernel)), (gwi 978 (by decide +kernel) (by decide +kernel)), by decide, by decide +kernel, by decide⟩, (gwi 977 (by decide +kernel) (by decide +kernel))⟩
theorem c_RX3_361 : CaV RX3 361 m_J4_setLength_d00df 1 1 := ⟨⟨(gwi 1095 (by decide +kernel) (by decide +kernel)), (gwi 6 (by decide +kernel) (by decide +kernel)), (gwi 1098 (by decide +kernel) (by decide +kernel)), by decide, by decide +kernel, by decide⟩, (gwi 1096 (by decide +kernel) (by decide +kernel)), by omega, _, rfl, Or.inl (gwi 1097 (by decide +kernel) (by decide +kernel))⟩
theorem c_RX3_365 : CaV RX3 365 m_J4_append_bf812 1 1 := ⟨⟨(gwi 1147 (by decide +kernel) (by decide +kernel)), (gwi 6 (by decide +kernel) (by decide +kernel)), (gwi 765 (by decide +kernel) (by decide +kernel)), by decide, by decide +kernel, by decide⟩, (gwi 763 (by decide +kernel) (by decide +kernel)), by omega, _, rfl, Or.inl (gwi 764 (by decide +kernel) (by decide +kernel))⟩
theorem c_RX3_369 : CaV RX3 369 m_J4_append_cf468 1 1 := ⟨⟨(gwi 1148 (by decide +kernel) (by decide +kernel)), (gwi 6 (by decide +kernel) (by decide +kernel)), (gwi 1151 (by decide +kernel) (by decide +kernel)), by decide, by decide +kernel, by decide⟩, (gwi 1149 (by decide +kernel) (by decide +kernel)), by omega, _, rfl, Or.inl (gwi 1150 (by decide +kernel) (by decide +kernel))⟩
theorem f_RX3_372 : Fl RX3 372 6 9 (.int) false := ⟨_, _, _, _, "Quizspool$Question", cl_6, by omega, (gwi 405 (by decide +kernel) (by decide +kernel)), Or.inl rfl, rfl, rfl, fun q => nomatch q⟩
theorem fg_RX3_372 : FlG RX3 372 6 9 := f_RX3_372.g
theorem c_RX3_375 : CaS RX3 375 m_X3_countHolder 1 := ⟨⟨(gwi 211 (by decide +kernel) (by decide +kernel)), (gwi 1 (by decide +kernel) (by decide +kernel)), (gwi 213 (by decide +kernel) (by decide +kernel)), by decide, by decide +kernel, by decide⟩, (gwi 212 (by decide +kernel) (by decide +kernel))⟩
theorem f_RX4_7 : Fl RX4 7 9 0 (.array .int) true := ⟨_, _, _, _, "QuizspoolModel", cl_9, by omega, (gwi 1219 (by decide +kernel) (by decide +kernel)), Or.inl rfl, rfl, rfl, fun _ => rfl⟩
theorem fg_RX4_7 : FlG RX4 7 9 0 := f_RX4_7.g
theorem f_RX4_13 : Fl RX4 13 9 1 (.array .int) true := ⟨_, _, _, _, "QuizspoolModel", cl_9, by omega, (gwi 1220 (by decide +kernel) (by decide +kernel)), Or.inl rfl, rfl, rfl, fun _ => rfl⟩
theorem fg_RX4_13 : FlG RX4 13 9 1 := f_RX4_13.g
theorem f_RX4_16 : Fl RX4 16 9 2 (.array .int) true := ⟨_, _, _, _, "QuizspoolModel", cl_9, by omega, (gwi 1221 (by decide +kernel) (by decide +kernel)), Or.inl rfl, rfl, rfl, fun _ => rfl⟩
theorem fg_RX4_16 : FlG RX4 16 9 2 := f_RX4_16.g
theorem f_RX4_19 : Fl RX4 19 9 3 (.array .int) true := ⟨_, _, _, _, "QuizspoolModel", cl_9, by omega, (gwi 1222 (by decide +kernel) (by decide +kernel)), Or.inl rfl, rfl, rfl, fun _ => rfl⟩
theorem fg_RX4_19 : FlG RX4 19 9 3 := f_RX4_19.g
theorem f_RX4_22 : Fl RX4 22 9 4 (.array .int) true := ⟨_, _, _, _, "QuizspoolModel", cl_9, by omega, (gwi 1223 (by decide +kernel) (by decide +kernel)), Or.inl rfl, rfl, rfl, fun _ => rfl⟩
theorem fg_RX4_22 : FlG RX4 22 9 4 := f_RX4_22.g
theorem f_RX4_25 : Fl RX4 25 9 5 (.array .int) true := ⟨_, _, _, _, "QuizspoolModel", cl_9, by omega, (gwi 1224 (by decide +kernel) (by decide +kernel)), Or.inl rfl, rfl, rfl, fun _ => rfl⟩
theorem fg_RX4_25 : FlG RX4 25 9 5 := f_RX4_25.g
theorem f_RX4_28 : Fl RX4 28 9 6 (.array .int) true := ⟨_, _, _, _, "QuizspoolModel", cl_9, by omega, (gwi 1225 (by decide +kernel) (by decide +kernel)), Or.inl rfl, rfl, rfl, fun _ => rfl⟩
theorem fg_RX4_28 : FlG RX4 28 9 6 := f_RX4_28.g
theorem f_RX4_31 : Fl RX4 31 9 7 (.array .int) true := ⟨_, _, _, _, "QuizspoolModel", cl_9, by omega, (gwi 1226 (by decide +kernel) (by decide +kernel)), Or.inl rfl, rfl, rfl, fun _ => rfl⟩
theorem fg_RX4_31 : FlG RX4 31 9 7 := f_RX4_31.g
theorem f_RX4_34 : Fl RX4 34 9 8 (.array .int) true := ⟨_, _, _, _, "QuizspoolModel", cl_9, by omega, (gwi 1227 (by decide +kernel) (by decide +kernel)), Or.inl rfl, rfl, rfl, fun _ => rfl⟩
theorem fg_RX4_34 : FlG RX4 34 9 8 := f_RX4_34.g
theorem f_RX4_37 : Fl RX4 37 9 9 (.array .int) true := ⟨_, _, _, _, "QuizspoolModel", cl_9, by omega, (gwi 1228 (by decide +kernel) (by decide +kernel)), Or.inl rfl, rfl, rfl, fun _ => rfl⟩
theorem fg_RX4_37 : FlG RX4 37 9 9 := f_RX4_37.g
theorem f_RX4_40 : Fl RX4 40 9 10 (.array .int) true := ⟨_, _, _, _, "QuizspoolModel", cl_9, by omega, (gwi 1229 (by decide +kernel) (by decide +kernel)), Or.inl rfl, rfl, rfl, fun _ => rfl⟩
theorem fg_RX4_40 : FlG RX4 40 9 10 := f_RX4_40.g
theorem f_RX4_43 : Fl RX4 43 9 11 (.array .int) true := ⟨_, _, _, _, "QuizspoolModel", cl_9, by omega, (gwi 1230 (by decide +kernel) (by decide +kernel)), Or.inl rfl, rfl, rfl, fun _ => rfl⟩
theorem fg_RX4_43 : FlG RX4 43 9 11 := f_RX4_43.g
theorem f_RX4_46 : Fl RX4 46 9 12 (.array .char) true := ⟨_, _, _, _, "QuizspoolModel", cl_9, by omega, (gwi 1231 (by decide +kernel) (by decide +kernel)), Or.inl rfl, rfl, rfl, fun _ => rfl⟩
theorem fg_RX4_46 : FlG RX4 46 9 12 := f_RX4_46.g
theorem f_RX4_50 : Fl RX4 50 9 13 (.array .char) true := ⟨_, _, _, _, "QuizspoolModel", cl_9, by omega, (gwi 1232 (by decide +kernel) (by decide +kernel)), Or.inl rfl, rfl, rfl, fun _ => rfl⟩
theorem fg_RX4_50 : FlG RX4 50 9 13 := f_RX4_50.g
theorem f_RX4_53 : Fl RX4 53 9 14 (.array .boolean) true := ⟨_, _, _, _, "QuizspoolModel", cl_9, by omega, (gwi 1233 (by decide +kernel) (by decide +kernel)), Or.inl rfl, rfl, rfl, fun _ => rfl⟩
theorem fg_RX4_53 : FlG RX4 53 9 14 := f_RX4_53.g
theorem f_RX4_57 : Fl RX4 57 9 15 (.array .boolean) true := ⟨_, _, _, _, "QuizspoolModel", cl_9, by omega, (gwi 1234 (by decide +kernel) (by decide +kernel)), Or.inl rfl, rfl, rfl, fun _ => rfl⟩
theorem fg_RX4_57 : FlG RX4 57 9 15 := f_RX4_57.g
theorem f_RX4_60 : Fl RX4 60 9 16 (.array .int) true := ⟨_, _, _, _, "QuizspoolModel", cl_9, by omega, (gwi 1235 (by decide +kernel) (by decide +kernel)), Or.inl rfl, rfl, rfl, fun _ => rfl⟩
theorem fg_RX4_60 : FlG RX4 60 9 16 := f_RX4_60.g
theorem f_RX4_63 : Fl RX4 63 9 17 (.array .int) true := ⟨_, _, _, _, "QuizspoolModel", cl_9, by omega, (gwi 1236 (by decide +kernel) (by decide +kernel)), Or.inl rfl, rfl, rfl, fun _ => rfl⟩
theorem fg_RX4_63 : FlG RX4 63 9 17 := f_RX4_63.g
theorem f_RX4_66 : Fl RX4 66 9 18 (.array .char) true := ⟨_, _, _, _, "QuizspoolModel", cl_9, by omega, (gwi 1237 (by decide +kernel) (by decide +kernel)), Or.inl rfl, rfl, rfl, fun _ => rfl⟩
theorem fg_RX4_66 : FlG RX4 66 9 18 := f_RX4_66.g
theorem f_RX4_69 : Fl RX4 69 9 30 (.array .int) true := ⟨_, _, _, _, "QuizspoolModel", cl_9, by omega, (gwi 1249 (by decide +kernel) (by decide +kernel)), Or.inl rfl, rfl, rfl, fun _ => rfl⟩
theorem fg_RX4_69 : FlG RX4 69 9 30 := f_RX4_69.g
theorem f_RX4_72 : Fl RX4 72 9 27 (.int) false := ⟨_, _, _, _, "QuizspoolModel", cl_9, by omega, (gwi 1246 (by decide +kernel) (by decide +kernel)), Or.inl rfl, rfl, rfl, fun q => nomatch q⟩
theorem fg_RX4_72 : FlG RX4 72 9 27 := f_RX4_72.g
theorem f_RX4_76 : Fl RX4 76 9 20 (.int) false := ⟨_, _, _, _, "QuizspoolModel", cl_9, by omega, (gwi 1239 (by decide +kernel) (by decide +kernel)), Or.inl rfl, rfl, rfl, fun q => nomatch q⟩
theorem fg_RX4_76 : FlG RX4 76 9 20 := f_RX4_76.g
theorem c_RX4_79 : CaS RX4 79 m_X4_in 3 := ⟨⟨(gwi 1322 (by decide +kernel) (by decide +kernel)), (gwi 9 (by decide +kernel) (by decide +kernel)), (gwi 1324 (by decide +kernel) (by decide +kernel)), by decide, by decide +kernel, by decide⟩, (gwi 1323 (by decide +kernel) (by decide +kernel))⟩
theorem f_RX4_83 : Fl RX4 83 9 22 (.int) false := ⟨_, _, _, _, "QuizspoolModel", cl_9, by omega, (gwi 1241 (by decide +kernel) (by decide +kernel)), Or.inl rfl, rfl, rfl, fun q => nomatch q⟩
theorem fg_RX4_83 : FlG RX4 83 9 22 := f_RX4_83.g
theorem f_RX4_86 : Fl RX4 86 9 23 (.int) false := ⟨_, _, _, _, "QuizspoolModel", cl_9, by omega, (gwi 1242 (by decide +kernel) (by decide +kernel)), Or.inl rfl, rfl, rfl, fun q => nomatch q⟩
theorem fg_RX4_86 : FlG RX4 86 9 23 := f_RX4_86.g
theorem f_RX4_89 : Fl RX4 89 9 19 (.int) false := ⟨_, _, _, _, "QuizspoolModel", cl_9, by omega, (gwi 1238 (by decide +kernel) (by decide +kernel)), Or.inl rfl, rfl, rfl, fun q => nomatch q⟩
theorem fg_RX4_89 : FlG RX4 89 9 19 := f_RX4_89.g
theorem c_RX4_92 : CaV RX4 92 m_X4_settle 0 9 := ⟨⟨(gwi 1333 (by decide +kernel) (by decide +kernel)), (gwi 9 (by decide +kernel) (by decide +kernel)), (gwi 1336 (by decide +kernel) (by decide +kernel)), by decide, by decide +kernel, by decide⟩, (gwi 1335 (by decide +kernel) (by decide +kernel)), by omega, _, rfl, Or.inl (gwp 28 (by decide +kernel) (by decide +kernel))⟩
theorem c_RX4_95 : CaV RX4 95 m_X4_isQuestion 1 9 := ⟨⟨(gwi 1373 (by decide +kernel) (by decide +kernel)), (gwi 9 (by decide +kernel) (by decide +kernel)), (gwi 1376 (by decide +kernel) (by decide +kernel)), by decide, by decide +kernel, by decide⟩, (gwi 1375 (by decide +kernel) (by decide +kernel)), by omega, _, rfl, Or.inl (gwp 37 (by decide +kernel) (by decide +kernel))⟩
theorem c_RX4_99 : CaV RX4 99 m_X4_areTwin 2 9 := ⟨⟨(gwi 1349 (by decide +kernel) (by decide +kernel)), (gwi 9 (by decide +kernel) (by decide +kernel)), (gwi 1352 (by decide +kernel) (by decide +kernel)), by decide, by decide +kernel, by decide⟩, (gwi 1351 (by decide +kernel) (by decide +kernel)), by omega, _, rfl, Or.inl (gwp 32 (by decide +kernel) (by decide +kernel))⟩
theorem c_RX4_103 : CaV RX4 103 m_X4_wrongQuestion 1 9 := ⟨⟨(gwi 1385 (by decide +kernel) (by decide +kernel)), (gwi 9 (by decide +kernel) (by decide +kernel)), (gwi 1388 (by decide +kernel) (by decide +kernel)), by decide, by decide +kernel, by decide⟩, (gwi 1387 (by decide +kernel) (by decide +kernel)), by omega, _, rfl, Or.inl (gwp 38 (by decide +kernel) (by decide +kernel))⟩
theorem c_RX4_107 : CaV RX4 107 m_X4_kindOf 1 9 := ⟨⟨(gwi 1341 (by decide +kernel) (by decide +kernel)), (gwi 9 (by decide +kernel) (by decide +kernel)), (gwi 1344 (by decide +kernel) (by decide +kernel)), by decide, by decide +kernel, by decide⟩, (gwi 1343 (by decide +kernel) (by decide +kernel)), by omega, _, rfl, Or.inl (gwp 30 (by decide +kernel) (by decide +kernel))⟩
theorem c_RX4_111 : CaV RX4 111 m_X4_isTyped 1 9 := ⟨⟨(gwi 1409 (by decide +kernel) (by decide +kernel)), (gwi 9 (by decide +kernel) (by decide +kernel)), (gwi 1412 (by decide +kernel) (by decide +kernel)), by decide, by decide +kernel, by decide⟩, (gwi 1411 (by decide +kernel) (by decide +kernel)), by omega, _, rfl, Or.inl (gwp 40 (by decide +kernel) (by decide +kernel))⟩
theorem c_RX4_114 : CaV RX4 114 m_X4_hasAhead 2 9 := ⟨⟨(gwi 1413 (by decide +kernel) (by decide +kernel)), (gwi 9 (by decide +kernel) (by decide +kernel)), (gwi 1416 (by decide +kernel) (by decide +kernel)), by decide, by decide +kernel, by decide⟩, (gwi 1415 (by decide +kernel) (by decide +kernel)), by omega, _, rfl, Or.inl (gwp 41 (by decide +kernel) (by decide +kernel))⟩
theorem f_RX4_117 : Fl RX4 117 9 21 (.int) false := ⟨_, _, _, _, "QuizspoolModel", cl_9, by omega, (gwi 1240 (by decide +kernel) (by decide +kernel)), Or.inl rfl, rfl, rfl, fun q => nomatch q⟩
theorem fg_RX4_117 : FlG RX4 117 9 21 := f_RX4_117.g
theorem c_RX4_120 : CaV RX4 120 m_X4_rankOf 1 9 := ⟨⟨(gwi 1405 (by decide +kernel) (by decide +kernel)), (gwi 9 (by decide +kernel) (by decide +kernel)), (gwi 1408 (by decide +kernel) (by decide +kernel)), by decide, by decide +kernel, by decide⟩, (gwi 1407 (by decide +kernel) (by decide +kernel)), by omega, _, rfl, Or.inl (gwp 39 (by decide +kernel) (by decide +kernel))⟩
theorem f_RX4_123 : Fl RX4 123 9 24 (.int) false := ⟨_, _, _, _, "QuizspoolModel", cl_9, by omega, (gwi 1243 (by decide +kernel) (by decide +kernel)), Or.inl rfl, rfl, rfl, fun q => nomatch q⟩
theorem fg_RX4_123 : FlG RX4 123 9 24 := f_RX4_123.g
theorem c_RX4_126 : CaV RX4 126 m_X4_plain 1 9 := ⟨⟨(gwi 1429 (by decide +kernel) (by decide +kernel)), (gwi 9 (by decide +kernel) (by decide +kernel)), (gwi 1432 (by decide +kernel) (by decide +kernel)), by decide, by decide +kernel, by decide⟩, (gwi 1431 (by decide +kernel) (by decide +kernel)), by omega, _, rfl, Or.inl (gwp 42 (by decide +kernel) (by decide +kernel))⟩
theorem c_RX4_129 : CaS RX4 129 m_X4_isKind 1 := ⟨⟨(gwi 1441 (by decide +kernel) (by decide +kernel)), (gwi 9 (by decide +kernel) (by decide +kernel)), (gwi 1443 (by decide +kernel) (by decide +kernel)), by decide, by decide +kernel, by decide⟩, (gwi 1442 (by decide +kernel) (by decide +kernel))⟩
theorem c_RX4_133 : CaV RX4 133 m_X4_isInForce 1 9 := ⟨⟨(gwi 1337 (by decide +kernel) (by decide +kernel)), (gwi 9 (by decide +kernel) (by decide +kernel)), (gwi 1340 (by decide +kernel) (by decide +kernel)), by decide, by decide +kernel, by decide⟩, (gwi 1339 (by decide +kernel) (by decide +kernel)), by omega, _, rfl, Or.inl (gwp 29 (by decide +kernel) (by decide +kernel))⟩
theorem c_RX4_136 : CaV RX4 136 m_X4_isPlan 1 9 := ⟨⟨(gwi 1448 (by decide +kernel) (by decide +kernel)), (gwi 9 (by decide +kernel) (by decide +kernel)), (gwi 1451 (by decide +kernel) (by decide +kernel)), by decide, by decide +kernel, by decide⟩, (gwi 1450 (by decide +kernel) (by decide +kernel)), by omega, _, rfl, Or.inl (gwp 43 (by decide +kernel) (by decide +kernel))⟩
theorem c_RX4_139 : CaV RX4 139 m_X4_heldBy 1 9 := ⟨⟨(gwi 1361 (by decide +kernel) (by decide +kernel)), (gwi 9 (by decide +kernel) (by decide +kernel)), (gwi 1364 (by decide +kernel) (by decide +kernel)), by decide, by decide +kernel, by decide⟩, (gwi 1363 (by decide +kernel) (by decide +kernel)), by omega, _, rfl, Or.inl (gwp 35 (by decide +kernel) (by decide +kernel))⟩
theorem c_RX4_142 : CaV RX4 142 m_X4_wrongPlan 1 9 := ⟨⟨(gwi 1456 (by decide +kernel) (by decide +kernel)), (gwi 9 (by decide +kernel) (by decide +kernel)), (gwi 1459 (by decide +kernel) (by decide +kernel)), by decide, by decide +kernel, by decide⟩, (gwi 1458 (by decide +kernel) (by decide +kernel)), by omega, _, rfl, Or.inl (gwp 44 (by decide +kernel) (by decide +kernel))⟩
theorem c_RX4_145 : CaV RX4 145 m_X4_hasOn 2 9 := ⟨⟨(gwi 1365 (by decide +kernel) (by decide +kernel)), (gwi 9 (by decide +kernel) (by decide +kernel)), (gwi 1368 (by decide +kernel) (by decide +kernel)), by decide, by decide +kernel, by decide⟩, (gwi 1367 (by decide +kernel) (by decide +kernel)), by omega, _, rfl, Or.inl (gwp 36 (by decide +kernel) (by decide +kernel))⟩
theorem c_RX4_148 : CaV RX4 148 m_X4_isHeld 1 9 := ⟨⟨(gwi 1357 (by decide +kernel) (by decide +kernel)), (gwi 9 (by decide +kernel) (by decide +kernel)), (gwi 1360 (by decide +kernel) (by decide +kernel)), by decide, by decide +kernel, by decide⟩, (gwi 1359 (by decide +kernel) (by decide +kernel)), by omega, _, rfl, Or.inl (gwp 34 (by decide +kernel) (by decide +kernel))⟩
theorem c_RX4_151 : CaV RX4 151 m_X4_isFreeNow 1 9 := ⟨⟨(gwi 1353 (by decide +kernel) (by decide +kernel)), (gwi 9 (by decide +kernel) (by decide +kernel)), (gwi 1356 (by decide +kernel) (by decide +kernel)), by decide, by decide +kernel, by decide⟩, (gwi 1355 (by decide +kernel) (by decide +kernel)), by omega, _, rfl, Or.inl (gwp 33 (by decide +kernel) (by decide +kernel))⟩
theorem c_RX4_154 : CaV RX4 154 m_X4_hasTwinIn 3 9 := ⟨⟨(gwi 1345 (by decide +kernel) (by decide +kernel)), (gwi 9 (by decide +kernel) (by decide +kernel)), (gwi 1348 (by decide +kernel) (by decide +kernel)), by decide, by decide +kernel, by decide⟩, (gwi 1347 (by decide +kernel) (by decide +kernel)), by omega, _, rfl, Or.inl (gwp 31 (by decide +kernel) (by decide +kernel))⟩
theorem c_RX4_157 : CaV RX4 157 m_X4_isCandidate 3 9 := ⟨⟨(gwi 1488 (by decide +kernel) (by decide +kernel)), (gwi 9 (by decide +kernel) (by decide +kernel)), (gwi 1491 (by decide +kernel) (by decide +kernel)), by decide, by decide +kernel, by decide⟩, (gwi 1490 (by decide +kernel) (by decide +kernel)), by omega, _, rfl, Or.inl (gwp 48 (by decide +kernel) (by decide +kernel))⟩
theorem c_RX4_161 : CaV RX4 161 m_X4_canDraw 4 9 := ⟨⟨(gwi 1476 (by decide +kernel) (by decide +kernel)), (gwi 9 (by decide +kernel) (by decide +kernel)), (gwi 1479 (by decide +kernel) (by decide +kernel)), by decide, by decide +kernel, by decide⟩, (gwi 1478 (by decide +kernel) (by decide +kernel)), by omega, _, rfl, Or.inl (gwp 45 (by decide +kernel) (by decide +kernel))⟩
theorem c_RX4_165 : CaV RX4 165 m_X4_candidate 3 9 := ⟨⟨(gwi 1484 (by decide +kernel) (by decide +kernel)), (gwi 9 (by decide +kernel) (by decide +kernel)), (gwi 1487 (by decide +kernel) (by decide +kernel)), by decide, by decide +kernel, by decide⟩, (gwi 1486 (by decide +kernel) (by decide +kernel)), by omega, _, rfl, Or.inl (gwp 47 (by decide +kernel) (by decide +kernel))⟩
theorem c_RX4_169 : CaV RX4 169 m_X4_made 1 9 := ⟨⟨(gwi 1492 (by decide +kernel) (by decide +kernel)), (gwi 9 (by decide +kernel) (by decide +kernel)), (gwi 1495 (by decide +kernel) (by decide +kernel)), by decide, by decide +kernel, by decide⟩, (gwi 1494 (by decide +kernel) (by decide +kernel)), by omega, _, rfl, Or.inl (gwp 49 (by decide +kernel) (by decide +kernel))⟩
theorem c_RX4_173 : CaV RX4 173 m_X4_isTrial 3 9 := ⟨⟨(gwi 1480 (by decide +kernel) (by decide +kernel)), (gwi 9 (by decide +kernel) (by decide +kernel)), (gwi 1483 (by decide +kernel) (by decide +kernel)), by decide, by decide +kernel, by decide⟩, (gwi 1482 (by decide +kernel) (by decide +kernel)), by omega, _, rfl, Or.inl (gwp 46 (by decide +kernel) (by decide +kernel))⟩
theorem c_RX4_176 : CaV RX4 176 m_X4_isSheet 1 9 := ⟨⟨(gwi 1508 (by decide +kernel) (by decide +kernel)), (gwi 9 (by decide +kernel) (by decide +kernel)), (gwi 1511 (by decide +kernel) (by decide +kernel)), by decide, by decide +kernel, by decide⟩, (gwi 1510 (by decide +kernel) (by decide +kernel)), by omega, _, rfl, Or.inl (gwp 51 (by decide +kernel) (by decide +kernel))⟩
theorem c_RX4_179 : CaV RX4 179 m_X4_wrongSheet 1 9 := ⟨⟨(gwi 1504 (by decide +kernel) (by decide +kernel)), (gwi 9 (by decide +kernel) (by decide +kernel)), (gwi 1507 (by decide +kernel) (by decide +kernel)), by decide, by decide +kernel, by decide⟩, (gwi 1506 (by decide +kernel) (by decide +kernel)), by omega, _, rfl, Or.inl (gwp 50 (by decide +kernel) (by decide +kernel))⟩
theorem f_RX4_182 : Fl RX4 182 9 29 (.boolean) false := ⟨_, _, _, _, "QuizspoolModel", cl_9, by omega, (gwi 1248 (by decide +kernel) (by decide +kernel)), Or.inl rfl, rfl, rfl, fun q => nomatch q⟩
theorem fg_RX4_182 : FlG RX4 182 9 29 := f_RX4_182.g
theorem f_RX4_186 : Fl RX4 186 9 25 (.int) false := ⟨_, _, _, _, "QuizspoolModel", cl_9, by omega, (gwi 1244 (by decide +kernel) (by decide +kernel)), Or.inl rfl, rfl, rfl, fun q => nomatch q⟩
theorem fg_RX4_186 : FlG RX4 186 9 25 := f_RX4_186.g
theorem f_RX4_189 : Fl RX4 189 9 26 (.int) false := ⟨_, _, _, _, "QuizspoolModel", cl_9, by omega, (gwi 1245 (by decide +kernel) (by decide +kernel)), Or.inl rfl, rfl, rfl, fun q => nomatch q⟩
theorem fg_RX4_189 : FlG RX4 189 9 26 := f_RX4_189.g
theorem f_RX4_192 : Fl RX4 192 9 28 (.int) false := ⟨_, _, _, _, "QuizspoolModel", cl_9, by omega, (gwi 1247 (by decide +kernel) (by decide +kernel)), Or.inl rfl, rfl, rfl, fun q => nomatch q⟩
theorem fg_RX4_192 : FlG RX4 192 9 28 := f_RX4_192.g
theorem c_RX4_195 : CaV RX4 195 m_X4_put 1 9 := ⟨⟨(gwi 1548 (by decide +kernel) (by decide +kernel)), (gwi 9 (by decide +kernel) (by decide +kernel)), (gwi 1551 (by decide +kernel) (by decide +kernel)), by decide, by decide +kernel, by decide⟩, (gwi 1550 (by decide +kernel) (by decide +kernel)), by omega, _, rfl, Or.inl (gwp 53 (by decide +kernel) (by decide +kernel))⟩
theorem c_RX4_199 : CaV RX4 199 m_X4_putNumber 1 9 := ⟨⟨(gwi 1544 (by decide +kernel) (by decide +kernel)), (gwi 9 (by decide +kernel) (by decide +kernel)), (gwi 1547 (by decide +kernel) (by decide +kernel)), by decide, by decide +kernel, by decide⟩, (gwi 1546 (by decide +kernel) (by decide +kernel)), by omega, _, rfl, Or.inl (gwp 52 (by decide +kernel) (by decide +kernel))⟩
theorem c_RL_7 : CaV RL 7 m_X3_type 1 8 := ⟨⟨(gwi 308 (by decide +kernel) (by decide +kernel)), (gwi 1 (by decide +kernel) (by decide +kernel)), (gwi 311 (by decide +kernel) (by decide +kernel)), by decide, by decide +kernel, by decide⟩, (gwi 309 (by decide +kernel) (by decide +kernel)), by omega, _, rfl, Or.inl (gwi 310 (by decide +kernel) (by decide +kernel))⟩
theorem c_RL_17 : CaV RL 17 m_X3_add 1 8 := ⟨⟨(gwi 351 (by decide +kernel) (by decide +kernel)), (gwi 1 (by decide +kernel) (by decide +kernel)), (gwi 354 (by decide +kernel) (by decide +kernel)), by decide, by decide +kernel, by decide⟩, (gwi 352 (by decide +kernel) (by decide +kernel)), by omega, _, rfl, Or.inl (gwi 353 (by decide +kernel) (by decide +kernel))⟩
theorem c_RL_22 : CaV RL 22 m_X3_twin 2 8 := ⟨⟨(gwi 558 (by decide +kernel) (by decide +kernel)), (gwi 1 (by decide +kernel) (by decide +kernel)), (gwi 561 (by decide +kernel) (by decide +kernel)), by decide, by decide +kernel, by decide⟩, (gwi 559 (by decide +kernel) (by decide +kernel)), by omega, _, rfl, Or.inl (gwi 560 (by decide +kernel) (by decide +kernel))⟩
theorem c_RL_28 : CaV RL 28 m_X3_areTwins 2 8 := ⟨⟨(gwi 591 (by decide +kernel) (by decide +kernel)), (gwi 1 (by decide +kernel) (by decide +kernel)), (gwi 594 (by decide +kernel) (by decide +kernel)), by decide, by decide +kernel, by decide⟩, (gwi 592 (by decide +kernel) (by decide +kernel)), by omega, _, rfl, Or.inl (gwi 593 (by decide +kernel) (by decide +kernel))⟩
theorem c_RL_32 : CaV RL 32 m_X3_wordAt 2 8 := ⟨⟨(gwi 599 (by decide +kernel) (by decide +kernel)), (gwi 1 (by decide +kernel) (by decide +kernel)), (gwi 602 (by decide +kernel) (by decide +kernel)), by decide, by decide +kernel, by decide⟩, (gwi 600 (by decide +kernel) (by decide +kernel)), by omega, _, rfl, Or.inl (gwi 601 (by decide +kernel) (by decide +kernel))⟩
theorem c_RL_37 : CaV RL 37 m_X3_level 1 8 := ⟨⟨(gwi 606 (by decide +kernel) (by decide +kernel)), (gwi 1 (by decide +kernel) (by decide +kernel)), (gwi 609 (by decide +kernel) (by decide +kernel)), by decide, by decide +kernel, by decide⟩, (gwi 607 (by decide +kernel) (by decide +kernel)), by omega, _, rfl, Or.inl (gwi 608 (by decide +kernel) (by decide +kernel))⟩
theorem c_RL_40 : CaV RL 40 m_X3_levelAnew 1 8 := ⟨⟨(gwi 613 (by decide +kernel) (by decide +kernel)), (gwi 1 (by decide +kernel) (by decide +kernel)), (gwi 616 (by decide +kernel) (by decide +kernel)), by decide, by decide +kernel, by decide⟩, (gwi 614 (by decide +kernel) (by decide +kernel)), by omega, _, rfl, Or.inl (gwi 615 (by decide +kernel) (by decide +kernel))⟩
theorem c_RL_43 : CaV RL 43 m_X3_kind 1 8 := ⟨⟨(gwi 620 (by decide +kernel) (by decide +kernel)), (gwi 1 (by decide +kernel) (by decide +kernel)), (gwi 623 (by decide +kernel) (by decide +kernel)), by decide, by decide +kernel, by decide⟩, (gwi 621 (by decide +kernel) (by decide +kernel)), by omega, _, rfl, Or.inl (gwi 622 (by decide +kernel) (by decide +kernel))⟩
theorem c_RL_47 : CaV RL 47 m_X3_search 0 8 := ⟨⟨(gwi 627 (by decide +kernel) (by decide +kernel)), (gwi 1 (by decide +kernel) (by decide +kernel)), (gwi 630 (by decide +kernel) (by decide +kernel)), by decide, by decide +kernel, by decide⟩, (gwi 628 (by decide +kernel) (by decide +kernel)), by omega, _, rfl, Or.inl (gwi 629 (by decide +kernel) (by decide +kernel))⟩
theorem c_RL_51 : CaV RL 51 m_X3_hitAt 1 8 := ⟨⟨(gwi 855 (by decide +kernel) (by decide +kernel)), (gwi 1 (by decide +kernel) (by decide +kernel)), (gwi 858 (by decide +kernel) (by decide +kernel)), by decide, by decide +kernel, by decide⟩, (gwi 856 (by decide +kernel) (by decide +kernel)), by omega, _, rfl, Or.inl (gwi 857 (by decide +kernel) (by decide +kernel))⟩
theorem c_RL_54 : CaV RL 54 m_X3_rankAt 1 8 := ⟨⟨(gwi 866 (by decide +kernel) (by decide +kernel)), (gwi 1 (by decide +kernel) (by decide +kernel)), (gwi 869 (by decide +kernel) (by decide +kernel)), by decide, by decide +kernel, by decide⟩, (gwi 867 (by decide +kernel) (by decide +kernel)), by omega, _, rfl, Or.inl (gwi 868 (by decide +kernel) (by decide +kernel))⟩
theorem c_RL_57 : CaV RL 57 m_X3_nextWeek 0 8 := ⟨⟨(gwi 873 (by decide +kernel) (by decide +kernel)), (gwi 1 (by decide +kernel) (by decide +kernel)), (gwi 876 (by decide +kernel) (by decide +kernel)), by decide, by decide +kernel, by decide⟩, (gwi 874 (by decide +kernel) (by decide +kernel)), by omega, _, rfl, Or.inl (gwi 875 (by decide +kernel) (by decide +kernel))⟩
theorem c_RL_60 : CaV RL 60 m_X3_plan 3 8 := ⟨⟨(gwi 881 (by decide +kernel) (by decide +kernel)), (gwi 1 (by decide +kernel) (by decide +kernel)), (gwi 884 (by decide +kernel) (by decide +kernel)), by decide, by decide +kernel, by decide⟩, (gwi 882 (by decide +kernel) (by decide +kernel)), by omega, _, rfl, Or.inl (gwi 883 (by decide +kernel) (by decide +kernel))⟩
theorem c_RL_64 : CaV RL 64 m_X3_drop 1 8 := ⟨⟨(gwi 918 (by decide +kernel) (by decide +kernel)), (gwi 1 (by decide +kernel) (by decide +kernel)), (gwi 921 (by decide +kernel) (by decide +kernel)), by decide, by decide +kernel, by decide⟩, (gwi 919 (by decide +kernel) (by decide +kernel)), by omega, _, rfl, Or.inl (gwi 920 (by decide +kernel) (by decide +kernel))⟩
theorem c_RL_67 : CaV RL 67 m_X3_held 1 8 := ⟨⟨(gwi 934 (by decide +kernel) (by decide +kernel)), (gwi 1 (by decide +kernel) (by decide +kernel)), (gwi 937 (by decide +kernel) (by decide +kernel)), by decide, by decide +kernel, by decide⟩, (gwi 935 (by decide +kernel) (by decide +kernel)), by omega, _, rfl, Or.inl (gwi 936 (by decide +kernel) (by decide +kernel))⟩
theorem c_RL_70 : CaV RL 70 m_X3_heldAt 2 8 := ⟨⟨(gwi 941 (by decide +kernel) (by decide +kernel)), (gwi 1 (by decide +kernel) (by decide +kernel)), (gwi 944 (by decide +kernel) (by decide +kernel)), by decide, by decide +kernel, by decide⟩, (gwi 942 (by decide +kernel) (by decide +kernel)), by omega, _, rfl, Or.inl (gwi 943 (by decide +kernel) (by decide +kernel))⟩
theorem c_RL_73 : CaV RL 73 m_X3_lacks 1 8 := ⟨⟨(gwi 948 (by decide +kernel) (by decide +kernel)), (gwi 1 (by decide +kernel) (by decide +kernel)), (gwi 951 (by decide +kernel) (by decide +kernel)), by decide, by decide +kernel, by decide⟩, (gwi 949 (by decide +kernel) (by decide +kernel)), by omega, _, rfl, Or.inl (gwi 950 (by decide +kernel) (by decide +kernel))⟩
theorem c_RL_76 : CaV RL 76 m_X3_isFree 1 8 := ⟨⟨(gwi 955 (by decide +kernel) (by decide +kernel)), (gwi 1 (by decide +kernel) (by decide +kernel)), (gwi 958 (by decide +kernel) (by decide +kernel)), by decide, by decide +kernel, by decide⟩, (gwi 956 (by decide +kernel) (by decide +kernel)), by omega, _, rfl, Or.inl (gwi 957 (by decide +kernel) (by decide +kernel))⟩
theorem c_RL_80 : CaV RL 80 m_X3_quiz 4 8 := ⟨⟨(gwi 962 (by decide +kernel) (by decide +kernel)), (gwi 1 (by decide +kernel) (by decide +kernel)), (gwi 965 (by decide +kernel) (by decide +kernel)), by decide, by decide +kernel, by decide⟩, (gwi 963 (by decide +kernel) (by decide +kernel)), by omega, _, rfl, Or.inl (gwi 964 (by decide +kernel) (by decide +kernel))⟩
theorem c_RL_84 : CaV RL 84 m_X3_quizOf 1 8 := ⟨⟨(gwi 1011 (by decide +kernel) (by decide +kernel)), (gwi 1 (by decide +kernel) (by decide +kernel)), (gwi 1014 (by decide +kernel) (by decide +kernel)), by decide, by decide +kernel, by decide⟩, (gwi 1012 (by decide +kernel) (by decide +kernel)), by omega, _, rfl, Or.inl (gwi 1013 (by decide +kernel) (by decide +kernel))⟩
theorem c_RL_87 : CaV RL 87 m_X3_size 1 8 := ⟨⟨(gwi 1023 (by decide +kernel) (by decide +kernel)), (gwi 1 (by decide +kernel) (by decide +kernel)), (gwi 1026 (by decide +kernel) (by decide +kernel)), by decide, by decide +kernel, by decide⟩, (gwi 1024 (by decide +kernel) (by decide +kernel)), by omega, _, rfl, Or.inl (gwi 1025 (by decide +kernel) (by decide +kernel))⟩
theorem c_RL_90 : CaV RL 90 m_X3_questionAt 2 8 := ⟨⟨(gwi 1035 (by decide +kernel) (by decide +kernel)), (gwi 1 (by decide +kernel) (by decide +kernel)), (gwi 1038 (by decide +kernel) (by decide +kernel)), by decide, by decide +kernel, by decide⟩, (gwi 1036 (by decide +kernel) (by decide +kernel)), by omega, _, rfl, Or.inl (gwi 1037 (by decide +kernel) (by decide +kernel))⟩
theorem c_RL_93 : CaV RL 93 m_X3_stateOf 1 8 := ⟨⟨(gwi 1042 (by decide +kernel) (by decide +kernel)), (gwi 1 (by decide +kernel) (by decide +kernel)), (gwi 1045 (by decide +kernel) (by decide +kernel)), by decide, by decide +kernel, by decide⟩, (gwi 1043 (by decide +kernel) (by decide +kernel)), by omega, _, rfl, Or.inl (gwi 1044 (by decide +kernel) (by decide +kernel))⟩
theorem c_RL_96 : CaV RL 96 m_X3_print 0 8 := ⟨⟨(gwi 1049 (by decide +kernel) (by decide +kernel)), (gwi 1 (by decide +kernel) (by decide +kernel)), (gwi 1052 (by decide +kernel) (by decide +kernel)), by decide, by decide +kernel, by decide⟩, (gwi 1050 (by decide +kernel) (by decide +kernel)), by omega, _, rfl, Or.inl (gwi 1051 (by decide +kernel) (by decide +kernel))⟩
theorem c_RL_99 : CaV RL 99 m_X3_cancel 1 8 := ⟨⟨(gwi 1062 (by decide +kernel) (by decide +kernel)), (gwi 1 (by decide +kernel) (by decide +kernel)), (gwi 1065 (by decide +kernel) (by decide +kernel)), by decide, by decide +kernel, by decide⟩, (gwi 1063 (by decide +kernel) (by decide +kernel)), by omega, _, rfl, Or.inl (gwi 1064 (by decide +kernel) (by decide +kernel))⟩
theorem c_RL_102 : CaV RL 102 m_X3_answer 3 8 := ⟨⟨(gwi 1070 (by decide +kernel) (by decide +kernel)), (gwi 1 (by decide +kernel) (by decide +kernel)), (gwi 1073 (by decide +kernel) (by decide +kernel)), by decide, by decide +kernel, by decide⟩, (gwi 1071 (by decide +kernel) (by decide +kernel)), by omega, _, rfl, Or.inl (gwi 1072 (by decide +kernel) (by decide +kernel))⟩
theorem c_RL_106 : CaV RL 106 m_X3_textOf 2 8 := ⟨⟨(gwi 1087 (by decide +kernel) (by decide +kernel)), (gwi 1 (by decide +kernel) (by decide +kernel)), (gwi 1090 (by decide +kernel) (by decide +kernel)), by decide, by decide +kernel, by decide⟩, (gwi 1088 (by decide +kernel) (by decide +kernel)), by omega, _, rfl, Or.inl (gwi 1089 (by decide +kernel) (by decide +kernel))⟩
theorem c_RL_110 : CaV RL 110 m_X3_rightShare 0 8 := ⟨⟨(gwi 1197 (by decide +kernel) (by decide +kernel)), (gwi 1 (by decide +kernel) (by decide +kernel)), (gwi 1200 (by decide +kernel) (by decide +kernel)), by decide, by decide +kernel, by decide⟩, (gwi 1198 (by decide +kernel) (by decide +kernel)), by omega, _, rfl, Or.inl (gwi 1199 (by decide +kernel) (by decide +kernel))⟩
theorem c_RL_116 : CaV RL 116 m_X3_meanLevel 0 8 := ⟨⟨(gwi 1207 (by decide +kernel) (by decide +kernel)), (gwi 1 (by decide +kernel) (by decide +kernel)), (gwi 1210 (by decide +kernel) (by decide +kernel)), by decide, by decide +kernel, by decide⟩, (gwi 1208 (by decide +kernel) (by decide +kernel)), by omega, _, rfl, Or.inl (gwi 1209 (by decide +kernel) (by decide +kernel))⟩
theorem n_RL_8 : Nw RL 8 8 13 := ⟨_, _, _, cl_8, (gwi 33 (by decide +kernel) (by decide +kernel)), (gwi 34 (by decide +kernel) (by decide +kernel)), (gwi 1 (by decide +kernel) (by decide +kernel)), by decide⟩
theorem c_RL_120 : CaI RL 120 m_X3_init 0 := ⟨⟨(gwi 35 (by decide +kernel) (by decide +kernel)), (gwi 1 (by decide +kernel) (by decide +kernel)), (gwi 37 (by decide +kernel) (by decide +kernel)), by decide, by decide +kernel, by decide⟩, (gwi 36 (by decide +kernel) (by decide +kernel)), rfl⟩
theorem n_RL_121 : Nw RL 121 9 31 := ⟨_, _, _, cl_9, (gwi 1213 (by decide +kernel) (by decide +kernel)), (gwi 1214 (by decide +kernel) (by decide +kernel)), (gwi 9 (by decide +kernel) (by decide +kernel)), by decide⟩
theorem c_RL_123 : CaI RL 123 m_X4_init 0 := ⟨⟨(gwi 1215 (by decide +kernel) (by decide +kernel)), (gwi 9 (by decide +kernel) (by decide +kernel)), (gwi 1217 (by decide +kernel) (by decide +kernel)), by decide, by decide +kernel, by decide⟩, (gwi 1216 (by decide +kernel) (by decide +kernel)), rfl⟩
theorem c_RL_124 : CaH RL 124 m_L_type 3 := ⟨⟨(gwi 303 (by decide +kernel) (by decide +kernel)), (gwi 0 (by decide +kernel) (by decide +kernel)), (gwi 305 (by decide +kernel) (by decide +kernel)), by decide, by decide +kernel, by decide⟩, (gwi 304 (by decide +kernel) (by decide +kernel))⟩
theorem c_RL_129 : CaV RL 129 m_X4_type 1 9 := ⟨⟨(gwi 1318 (by decide +kernel) (by decide +kernel)), (gwi 9 (by decide +kernel) (by decide +kernel)), (gwi 1321 (by decide +kernel) (by decide +kernel)), by decide, by decide +kernel, by decide⟩, (gwi 1319 (by decide +kernel) (by decide +kernel)), by omega, _, rfl, Or.inl (gwi 1320 (by decide +kernel) (by decide +kernel))⟩
theorem c_RL_130 : CaV RL 130 m_X4_thrown 0 9 := ⟨⟨(gwi 1314 (by decide +kernel) (by decide +kernel)), (gwi 9 (by decide +kernel) (by decide +kernel)), (gwi 1317 (by decide +kernel) (by decide +kernel)), by decide, by decide +kernel, by decide⟩, (gwi 1315 (by decide +kernel) (by decide +kernel)), by omega, _, rfl, Or.inl (gwi 1316 (by decide +kernel) (by decide +kernel))⟩
theorem c_RL_133 : CaV RL 133 m_X3_erase 0 8 := ⟨⟨(gwi 141 (by decide +kernel) (by decide +kernel)), (gwi 1 (by decide +kernel) (by decide +kernel)), (gwi 144 (by decide +kernel) (by decide +kernel)), by decide, by decide +kernel, by decide⟩, (gwi 142 (by decide +kernel) (by decide +kernel)), by omega, _, rfl, Or.inl (gwi 143 (by decide +kernel) (by decide +kernel))⟩
theorem c_RL_136 : CaV RL 136 m_X4_erase 0 9 := ⟨⟨(gwi 1325 (by decide +kernel) (by decide +kernel)), (gwi 9 (by decide +kernel) (by decide +kernel)), (gwi 1328 (by decide +kernel) (by decide +kernel)), by decide, by decide +kernel, by decide⟩, (gwi 1326 (by decide +kernel) (by decide +kernel)), by omega, _, rfl, Or.inl (gwi 1327 (by decide +kernel) (by decide +kernel))⟩
theorem c_RL_137 : CaH RL 137 m_L_add 3 := ⟨⟨(gwi 347 (by decide +kernel) (by decide +kernel)), (gwi 0 (by decide +kernel) (by decide +kernel)), (gwi 349 (by decide +kernel) (by decide +kernel)), by decide, by decide +kernel, by decide⟩, (gwi 348 (by decide +kernel) (by decide +kernel))⟩
theorem c_RL_139 : CaV RL 139 m_X4_add 1 9 := ⟨⟨(gwi 1329 (by decide +kernel) (by decide +kernel)), (gwi 9 (by decide +kernel) (by decide +kernel)), (gwi 1332 (by decide +kernel) (by decide +kernel)), by decide, by decide +kernel, by decide⟩, (gwi 1330 (by decide +kernel) (by decide +kernel)), by omega, _, rfl, Or.inl (gwi 1331 (by decide +kernel) (by decide +kernel))⟩
theorem c_RL_140 : CaH RL 140 m_L_twin 4 := ⟨⟨(gwi 531 (by decide +kernel) (by decide +kernel)), (gwi 0 (by decide +kernel) (by decide +kernel)), (gwi 533 (by decide +kernel) (by decide +kernel)), by decide, by decide +kernel, by decide⟩, (gwi 532 (by decide +kernel) (by decide +kernel))⟩
theorem c_RL_143 : CaV RL 143 m_X4_twin 2 9 := ⟨⟨(gwi 1369 (by decide +kernel) (by decide +kernel)), (gwi 9 (by decide +kernel) (by decide +kernel)), (gwi 1372 (by decide +kernel) (by decide +kernel)), by decide, by decide +kernel, by decide⟩, (gwi 1370 (by decide +kernel) (by decide +kernel)), by omega, _, rfl, Or.inl (gwi 1371 (by decide +kernel) (by decide +kernel))⟩
theorem c_RL_144 : CaH RL 144 m_L_areTwins 4 := ⟨⟨(gwi 588 (by decide +kernel) (by decide +kernel)), (gwi 0 (by decide +kernel) (by decide +kernel)), (gwi 590 (by decide +kernel) (by decide +kernel)), by decide, by decide +kernel, by decide⟩, (gwi 589 (by decide +kernel) (by decide +kernel))⟩
theorem c_RL_146 : CaV RL 146 m_X4_areTwins 2 9 := ⟨⟨(gwi 1377 (by decide +kernel) (by decide +kernel)), (gwi 9 (by decide +kernel) (by decide +kernel)), (gwi 1380 (by decide +kernel) (by decide +kernel)), by decide, by decide +kernel, by decide⟩, (gwi 1378 (by decide +kernel) (by decide +kernel)), by omega, _, rfl, Or.inl (gwi 1379 (by decide +kernel) (by decide +kernel))⟩
theorem c_RL_147 : CaH RL 147 m_L_wordAt 4 := ⟨⟨(gwi 595 (by decide +kernel) (by decide +kernel)), (gwi 0 (by decide +kernel) (by decide +kernel)), (gwi 597 (by decide +kernel) (by decide +kernel)), by decide, by decide +kernel, by decide⟩, (gwi 596 (by decide +kernel) (by decide +kernel))⟩
theorem c_RL_149 : CaV RL 149 m_X4_wordAt 2 9 := ⟨⟨(gwi 1381 (by decide +kernel) (by decide +kernel)), (gwi 9 (by decide +kernel) (by decide +kernel)), (gwi 1384 (by decide +kernel) (by decide +kernel)), by decide, by decide +kernel, by decide⟩, (gwi 1382 (by decide +kernel) (by decide +kernel)), by omega, _, rfl, Or.inl (gwi 1383 (by decide +kernel) (by decide +kernel))⟩
theorem c_RL_150 : CaH RL 150 m_L_level 3 := ⟨⟨(gwi 603 (by decide +kernel) (by decide +kernel)), (gwi 0 (by decide +kernel) (by decide +kernel)), (gwi 605 (by decide +kernel) (by decide +kernel)), by decide, by decide +kernel, by decide⟩, (gwi 604 (by decide +kernel) (by decide +kernel))⟩
theorem c_RL_152 : CaV RL 152 m_X4_level 1 9 := ⟨⟨(gwi 1389 (by decide +kernel) (by decide +kernel)), (gwi 9 (by decide +kernel) (by decide +kernel)), (gwi 1392 (by decide +kernel) (by decide +kernel)), by decide, by decide +kernel, by decide⟩, (gwi 1390 (by decide +kernel) (by decide +kernel)), by omega, _, rfl, Or.inl (gwi 1391 (by decide +kernel) (by decide +kernel))⟩
theorem c_RL_153 : CaH RL 153 m_L_levelAnew 3 := ⟨⟨(gwi 610 (by decide +kernel) (by decide +kernel)), (gwi 0 (by decide +kernel) (by decide +kernel)), (gwi 612 (by decide +kernel) (by decide +kernel)), by decide, by decide +kernel, by decide⟩, (gwi 611 (by decide +kernel) (by decide +kernel))⟩
theorem c_RL_155 : CaV RL 155 m_X4_levelAnew 1 9 := ⟨⟨(gwi 1393 (by decide +kernel) (by decide +kernel)), (gwi 9 (by decide +kernel) (by decide +kernel)), (gwi 1396 (by decide +kernel) (by decide +kernel)), by decide, by decide +kernel, by decide⟩, (gwi 1394 (by decide +kernel) (by decide +kernel)), by omega, _, rfl, Or.inl (gwi 1395 (by decide +kernel) (by decide +kernel))⟩
theorem c_RL_156 : CaH RL 156 m_L_kind 3 := ⟨⟨(gwi 617 (by decide +kernel) (by decide +kernel)), (gwi 0 (by decide +kernel) (by decide +kernel)), (gwi 619 (by decide +kernel) (by decide +kernel)), by decide, by decide +kernel, by decide⟩, (gwi 618 (by decide +kernel) (by decide +kernel))⟩
theorem c_RL_158 : CaV RL 158 m_X4_kind 1 9 := ⟨⟨(gwi 1397 (by decide +kernel) (by decide +kernel)), (gwi 9 (by decide +kernel) (by decide +kernel)), (gwi 1400 (by decide +kernel) (by decide +kernel)), by decide, by decide +kernel, by decide⟩, (gwi 1398 (by decide +kernel) (by decide +kernel)), by omega, _, rfl, Or.inl (gwi 1399 (by decide +kernel) (by decide +kernel))⟩
theorem c_RL_159 : CaH RL 159 m_L_search 2 := ⟨⟨(gwi 624 (by decide +kernel) (by decide +kernel)), (gwi 0 (by decide +kernel) (by decide +kernel)), (gwi 626 (by decide +kernel) (by decide +kernel)), by decide, by decide +kernel, by decide⟩, (gwi 625 (by decide +kernel) (by decide +kernel))⟩
theorem c_RL_162 : CaV RL 162 m_X4_search 0 9 := ⟨⟨(gwi 1401 (by decide +kernel) (by decide +kernel)), (gwi 9 (by decide +kernel) (by decide +kernel)), (gwi 1404 (by decide +kernel) (by decide +kernel)), by decide, by decide +kernel, by decide⟩, (gwi 1402 (by decide +kernel) (by decide +kernel)), by omega, _, rfl, Or.inl (gwi 1403 (by decide +kernel) (by decide +kernel))⟩
theorem c_RL_163 : CaH RL 163 m_L_hitAt 3 := ⟨⟨(gwi 852 (by decide +kernel) (by decide +kernel)), (gwi 0 (by decide +kernel) (by decide +kernel)), (gwi 854 (by decide +kernel) (by decide +kernel)), by decide, by decide +kernel, by decide⟩, (gwi 853 (by decide +kernel) (by decide +kernel))⟩
theorem c_RL_165 : CaV RL 165 m_X4_hitAt 1 9 := ⟨⟨(gwi 1417 (by decide +kernel) (by decide +kernel)), (gwi 9 (by decide +kernel) (by decide +kernel)), (gwi 1420 (by decide +kernel) (by decide +kernel)), by decide, by decide +kernel, by decide⟩, (gwi 1418 (by decide +kernel) (by decide +kernel)), by omega, _, rfl, Or.inl (gwi 1419 (by decide +kernel) (by decide +kernel))⟩
theorem c_RL_166 : CaH RL 166 m_L_rankAt 3 := ⟨⟨(gwi 863 (by decide +kernel) (by decide +kernel)), (gwi 0 (by decide +kernel) (by decide +kernel)), (gwi 865 (by decide +kernel) (by decide +kernel)), by decide, by decide +kernel, by decide⟩, (gwi 864 (by decide +kernel) (by decide +kernel))⟩
theorem c_RL_168 : CaV RL 168 m_X4_rankAt 1 9 := ⟨⟨(gwi 1421 (by decide +kernel) (by decide +kernel)), (gwi 9 (by decide +kernel) (by decide +kernel)), (gwi 1424 (by decide +kernel) (by decide +kernel)), by decide, by decide +kernel, by decide⟩, (gwi 1422 (by decide +kernel) (by decide +kernel)), by omega, _, rfl, Or.inl (gwi 1423 (by decide +kernel) (by decide +kernel))⟩
theorem c_RL_169 : CaV RL 169 m_X3_week 0 8 := ⟨⟨(gwi 145 (by decide +kernel) (by decide +kernel)), (gwi 1 (by decide +kernel) (by decide +kernel)), (gwi 148 (by decide +kernel) (by decide +kernel)), by decide, by decide +kernel, by decide⟩, (gwi 146 (by decide +kernel) (by decide +kernel)), by omega, _, rfl, Or.inl (gwi 147 (by decide +kernel) (by decide +kernel))⟩
theorem c_RL_172 : CaV RL 172 m_X4_week 0 9 := ⟨⟨(gwi 1425 (by decide +kernel) (by decide +kernel)), (gwi 9 (by decide +kernel) (by decide +kernel)), (gwi 1428 (by decide +kernel) (by decide +kernel)), by decide, by decide +kernel, by decide⟩, (gwi 1426 (by decide +kernel) (by decide +kernel)), by omega, _, rfl, Or.inl (gwi 1427 (by decide +kernel) (by decide +kernel))⟩
theorem c_RL_173 : CaH RL 173 m_L_nextWeek 2 := ⟨⟨(gwi 870 (by decide +kernel) (by decide +kernel)), (gwi 0 (by decide +kernel) (by decide +kernel)), (gwi 872 (by decide +kernel) (by decide +kernel)), by decide, by decide +kernel, by decide⟩, (gwi 871 (by decide +kernel) (by decide +kernel))⟩
theorem c_RL_175 : CaV RL 175 m_X4_nextWeek 0 9 := ⟨⟨(gwi 1433 (by decide +kernel) (by decide +kernel)), (gwi 9 (by decide +kernel) (by decide +kernel)), (gwi 1436 (by decide +kernel) (by decide +kernel)), by decide, by decide +kernel, by decide⟩, (gwi 1434 (by decide +kernel) (by decide +kernel)), by omega, _, rfl, Or.inl (gwi 1435 (by decide +kernel) (by decide +kernel))⟩
theorem c_RL_176 : CaH RL 176 m_L_plan 5 := ⟨⟨(gwi 878 (by decide +kernel) (by decide +kernel)), (gwi 0 (by decide +kernel) (by decide +kernel)), (gwi 880 (by decide +kernel) (by decide +kernel)), by decide, by decide +kernel, by decide⟩, (gwi 879 (by decide +kernel) (by decide +kernel))⟩
theorem c_RL_179 : CaV RL 179 m_X4_plan 3 9 := ⟨⟨(gwi 1437 (by decide +kernel) (by decide +kernel)), (gwi 9 (by decide +kernel) (by decide +kernel)), (gwi 1440 (by decide +kernel) (by decide +kernel)), by decide, by decide +kernel, by decide⟩, (gwi 1438 (by decide +kernel) (by decide +kernel)), by omega, _, rfl, Or.inl (gwi 1439 (by decide +kernel) (by decide +kernel))⟩
theorem c_RL_180 : CaH RL 180 m_L_drop 3 := ⟨⟨(gwi 915 (by decide +kernel) (by decide +kernel)), (gwi 0 (by decide +kernel) (by decide +kernel)), (gwi 917 (by decide +kernel) (by decide +kernel)), by decide, by decide +kernel, by decide⟩, (gwi 916 (by decide +kernel) (by decide +kernel))⟩
theorem c_RL_182 : CaV RL 182 m_X4_drop 1 9 := ⟨⟨(gwi 1444 (by decide +kernel) (by decide +kernel)), (gwi 9 (by decide +kernel) (by decide +kernel)), (gwi 1447 (by decide +kernel) (by decide +kernel)), by decide, by decide +kernel, by decide⟩, (gwi 1445 (by decide +kernel) (by decide +kernel)), by omega, _, rfl, Or.inl (gwi 1446 (by decide +kernel) (by decide +kernel))⟩
theorem c_RL_183 : CaH RL 183 m_L_held 3 := ⟨⟨(gwi 931 (by decide +kernel) (by decide +kernel)), (gwi 0 (by decide +kernel) (by decide +kernel)), (gwi 933 (by decide +kernel) (by decide +kernel)), by decide, by decide +kernel, by decide⟩, (gwi 932 (by decide +kernel) (by decide +kernel))⟩
theorem c_RL_185 : CaV RL 185 m_X4_held 1 9 := ⟨⟨(gwi 1452 (by decide +kernel) (by decide +kernel)), (gwi 9 (by decide +kernel) (by decide +kernel)), (gwi 1455 (by decide +kernel) (by decide +kernel)), by decide, by decide +kernel, by decide⟩, (gwi 1453 (by decide +kernel) (by decide +kernel)), by omega, _, rfl, Or.inl (gwi 1454 (by decide +kernel) (by decide +kernel))⟩
theorem c_RL_186 : CaH RL 186 m_L_heldAt 4 := ⟨⟨(gwi 938 (by decide +kernel) (by decide +kernel)), (gwi 0 (by decide +kernel) (by decide +kernel)), (gwi 940 (by decide +kernel) (by decide +kernel)), by decide, by decide +kernel, by decide⟩, (gwi 939 (by decide +kernel) (by decide +kernel))⟩
theorem c_RL_188 : CaV RL 188 m_X4_heldAt 2 9 := ⟨⟨(gwi 1460 (by decide +kernel) (by decide +kernel)), (gwi 9 (by decide +kernel) (by decide +kernel)), (gwi 1463 (by decide +kernel) (by decide +kernel)), by decide, by decide +kernel, by decide⟩, (gwi 1461 (by decide +kernel) (by decide +kernel)), by omega, _, rfl, Or.inl (gwi 1462 (by decide +kernel) (by decide +kernel))⟩
theorem c_RL_189 : CaH RL 189 m_L_lacks 3 := ⟨⟨(gwi 945 (by decide +kernel) (by decide +kernel)), (gwi 0 (by decide +kernel) (by decide +kernel)), (gwi 947 (by decide +kernel) (by decide +kernel)), by decide, by decide +kernel, by decide⟩, (gwi 946 (by decide +kernel) (by decide +kernel))⟩
theorem c_RL_191 : CaV RL 191 m_X4_lacks 1 9 := ⟨⟨(gwi 1464 (by decide +kernel) (by decide +kernel)), (gwi 9 (by decide +kernel) (by decide +kernel)), (gwi 1467 (by decide +kernel) (by decide +kernel)), by decide, by decide +kernel, by decide⟩, (gwi 1465 (by decide +kernel) (by decide +kernel)), by omega, _, rfl, Or.inl (gwi 1466 (by decide +kernel) (by decide +kernel))⟩
theorem c_RL_192 : CaH RL 192 m_L_isFree 3 := ⟨⟨(gwi 952 (by decide +kernel) (by decide +kernel)), (gwi 0 (by decide +kernel) (by decide +kernel)), (gwi 954 (by decide +kernel) (by decide +kernel)), by decide, by decide +kernel, by decide⟩, (gwi 953 (by decide +kernel) (by decide +kernel))⟩
theorem c_RL_194 : CaV RL 194 m_X4_isFree 1 9 := ⟨⟨(gwi 1468 (by decide +kernel) (by decide +kernel)), (gwi 9 (by decide +kernel) (by decide +kernel)), (gwi 1471 (by decide +kernel) (by decide +kernel)), by decide, by decide +kernel, by decide⟩, (gwi 1469 (by decide +kernel) (by decide +kernel)), by omega, _, rfl, Or.inl (gwi 1470 (by decide +kernel) (by decide +kernel))⟩
theorem c_RL_195 : CaH RL 195 m_L_quiz 6 := ⟨⟨(gwi 959 (by decide +kernel) (by decide +kernel)), (gwi 0 (by decide +kernel) (by decide +kernel)), (gwi 961 (by decide +kernel) (by decide +kernel)), by decide, by decide +kernel, by decide⟩, (gwi 960 (by decide +kernel) (by decide +kernel))⟩
theorem c_RL_198 : CaV RL 198 m_X4_quiz 4 9 := ⟨⟨(gwi 1472 (by decide +kernel) (by decide +kernel)), (gwi 9 (by decide +kernel) (by decide +kernel)), (gwi 1475 (by decide +kernel) (by decide +kernel)), by decide, by decide +kernel, by decide⟩, (gwi 1473 (by decide +kernel) (by decide +kernel)), by omega, _, rfl, Or.inl (gwi 1474 (by decide +kernel) (by decide +kernel))⟩
theorem c_RL_199 : CaH RL 199 m_L_quizOf 3 := ⟨⟨(gwi 1008 (by decide +kernel) (by decide +kernel)), (gwi 0 (by decide +kernel) (by decide +kernel)), (gwi 1010 (by decide +kernel) (by decide +kernel)), by decide, by decide +kernel, by decide⟩, (gwi 1009 (by decide +kernel) (by decide +kernel))⟩
theorem c_RL_201 : CaV RL 201 m_X4_quizOf 1 9 := ⟨⟨(gwi 1496 (by decide +kernel) (by decide +kernel)), (gwi 9 (by decide +kernel) (by decide +kernel)), (gwi 1499 (by decide +kernel) (by decide +kernel)), by decide, by decide +kernel, by decide⟩, (gwi 1497 (by decide +kernel) (by decide +kernel)), by omega, _, rfl, Or.inl (gwi 1498 (by decide +kernel) (by decide +kernel))⟩
theorem c_RL_202 : CaH RL 202 m_L_size 3 := ⟨⟨(gwi 1020 (by decide +kernel) (by decide +kernel)), (gwi 0 (by decide +kernel) (by decide +kernel)), (gwi 1022 (by decide +kernel) (by decide +kernel)), by decide, by decide +kernel, by decide⟩, (gwi 1021 (by decide +kernel) (by decide +kernel))⟩
theorem c_RL_204 : CaV RL 204 m_X4_size 1 9 := ⟨⟨(gwi 1500 (by decide +kernel) (by decide +kernel)), (gwi 9 (by decide +kernel) (by decide +kernel)), (gwi 1503 (by decide +kernel) (by decide +kernel)), by decide, by decide +kernel, by decide⟩, (gwi 1501 (by decide +kernel) (by decide +kernel)), by omega, _, rfl, Or.inl (gwi 1502 (by decide +kernel) (by decide +kernel))⟩
theorem c_RL_205 : CaH RL 205 m_L_questionAt 4 := ⟨⟨(gwi 1032 (by decide +kernel) (by decide +kernel)), (gwi 0 (by decide +kernel) (by decide +kernel)), (gwi 1034 (by decide +kernel) (by decide +kernel)), by decide, by decide +kernel, by decide⟩, (gwi 1033 (by decide +kernel) (by decide +kernel))⟩
theorem c_RL_207 : CaV RL 207 m_X4_questionAt 2 9 := ⟨⟨(gwi 1512 (by decide +kernel) (by decide +kernel)), (gwi 9 (by decide +kernel) (by decide +kernel)), (gwi 1515 (by decide +kernel) (by decide +kernel)), by decide, by decide +kernel, by decide⟩, (gwi 1513 (by decide +kernel) (by decide +kernel)), by omega, _, rfl, Or.inl (gwi 1514 (by decide +kernel) (by decide +kernel))⟩
theorem c_RL_208 : CaH RL 208 m_L_stateOf 3 := ⟨⟨(gwi 1039 (by decide +kernel) (by decide +kernel)), (gwi 0 (by decide +kernel) (by decide +kernel)), (gwi 1041 (by decide +kernel) (by decide +kernel)), by decide, by decide +kernel, by decide⟩, (gwi 1040 (by decide +kernel) (by decide +kernel))⟩
theorem c_RL_210 : CaV RL 210 m_X4_stateOf 1 9 := ⟨⟨(gwi 1516 (by decide +kernel) (by decide +kernel)), (gwi 9 (by decide +kernel) (by decide +kernel)), (gwi 1519 (by decide +kernel) (by decide +kernel)), by decide, by decide +kernel, by decide⟩, (gwi 1517 (by decide +kernel) (by decide +kernel)), by omega, _, rfl, Or.inl (gwi 1518 (by decide +kernel) (by decide +kernel))⟩
theorem c_RL_211 : CaV RL 211 m_X3_waiting 0 8 := ⟨⟨(gwi 149 (by decide +kernel) (by decide +kernel)), (gwi 1 (by decide +kernel) (by decide +kernel)), (gwi 152 (by decide +kernel) (by decide +kernel)), by decide, by decide +kernel, by decide⟩, (gwi 150 (by decide +kernel) (by decide +kernel)), by omega, _, rfl, Or.inl (gwi 151 (by decide +kernel) (by decide +kernel))⟩
theorem c_RL_214 : CaV RL 214 m_X4_waiting 0 9 := ⟨⟨(gwi 1520 (by decide +kernel) (by decide +kernel)), (gwi 9 (by decide +kernel) (by decide +kernel)), (gwi 1523 (by decide +kernel) (by decide +kernel)), by decide, by decide +kernel, by decide⟩, (gwi 1521 (by decide +kernel) (by decide +kernel)), by omega, _, rfl, Or.inl (gwi 1522 (by decide +kernel) (by decide +kernel))⟩
theorem c_RL_215 : CaV RL 215 m_X3_setJam 1 8 := ⟨⟨(gwi 172 (by decide +kernel) (by decide +kernel)), (gwi 1 (by decide +kernel) (by decide +kernel)), (gwi 175 (by decide +kernel) (by decide +kernel)), by decide, by decide +kernel, by decide⟩, (gwi 173 (by decide +kernel) (by decide +kernel)), by omega, _, rfl, Or.inl (gwi 174 (by decide +kernel) (by decide +kernel))⟩
theorem c_RL_219 : CaV RL 219 m_X4_setJam 1 9 := ⟨⟨(gwi 1524 (by decide +kernel) (by decide +kernel)), (gwi 9 (by decide +kernel) (by decide +kernel)), (gwi 1527 (by decide +kernel) (by decide +kernel)), by decide, by decide +kernel, by decide⟩, (gwi 1525 (by decide +kernel) (by decide +kernel)), by omega, _, rfl, Or.inl (gwi 1526 (by decide +kernel) (by decide +kernel))⟩
theorem c_RL_220 : CaH RL 220 m_L_print 2 := ⟨⟨(gwi 1046 (by decide +kernel) (by decide +kernel)), (gwi 0 (by decide +kernel) (by decide +kernel)), (gwi 1048 (by decide +kernel) (by decide +kernel)), by decide, by decide +kernel, by decide⟩, (gwi 1047 (by decide +kernel) (by decide +kernel))⟩
theorem c_RL_222 : CaV RL 222 m_X4_print 0 9 := ⟨⟨(gwi 1528 (by decide +kernel) (by decide +kernel)), (gwi 9 (by decide +kernel) (by decide +kernel)), (gwi 1531 (by decide +kernel) (by decide +kernel)), by decide, by decide +kernel, by decide⟩, (gwi 1529 (by decide +kernel) (by decide +kernel)), by omega, _, rfl, Or.inl (gwi 1530 (by decide +kernel) (by decide +kernel))⟩
theorem c_RL_223 : CaH RL 223 m_L_cancel 3 := ⟨⟨(gwi 1059 (by decide +kernel) (by decide +kernel)), (gwi 0 (by decide +kernel) (by decide +kernel)), (gwi 1061 (by decide +kernel) (by decide +kernel)), by decide, by decide +kernel, by decide⟩, (gwi 1060 (by decide +kernel) (by decide +kernel))⟩
theorem c_RL_225 : CaV RL 225 m_X4_cancel 1 9 := ⟨⟨(gwi 1532 (by decide +kernel) (by decide +kernel)), (gwi 9 (by decide +kernel) (by decide +kernel)), (gwi 1535 (by decide +kernel) (by decide +kernel)), by decide, by decide +kernel, by decide⟩, (gwi 1533 (by decide +kernel) (by decide +kernel)), by omega, _, rfl, Or.inl (gwi 1534 (by decide +kernel) (by decide +kernel))⟩
theorem c_RL_226 : CaH RL 226 m_L_answer 5 := ⟨⟨(gwi 1067 (by decide +kernel) (by decide +kernel)), (gwi 0 (by decide +kernel) (by decide +kernel)), (gwi 1069 (by decide +kernel) (by decide +kernel)), by decide, by decide +kernel, by decide⟩, (gwi 1068 (by decide +kernel) (by decide +kernel))⟩
theorem c_RL_229 : CaV RL 229 m_X4_answer 3 9 := ⟨⟨(gwi 1536 (by decide +kernel) (by decide +kernel)), (gwi 9 (by decide +kernel) (by decide +kernel)), (gwi 1539 (by decide +kernel) (by decide +kernel)), by decide, by decide +kernel, by decide⟩, (gwi 1537 (by decide +kernel) (by decide +kernel)), by omega, _, rfl, Or.inl (gwi 1538 (by decide +kernel) (by decide +kernel))⟩
theorem c_RL_230 : CaH RL 230 m_L_textOf 4 := ⟨⟨(gwi 1084 (by decide +kernel) (by decide +kernel)), (gwi 0 (by decide +kernel) (by decide +kernel)), (gwi 1086 (by decide +kernel) (by decide +kernel)), by decide, by decide +kernel, by decide⟩, (gwi 1085 (by decide +kernel) (by decide +kernel))⟩
theorem c_RL_232 : CaV RL 232 m_X4_textOf 2 9 := ⟨⟨(gwi 1540 (by decide +kernel) (by decide +kernel)), (gwi 9 (by decide +kernel) (by decide +kernel)), (gwi 1543 (by decide +kernel) (by decide +kernel)), by decide, by decide +kernel, by decide⟩, (gwi 1541 (by decide +kernel) (by decide +kernel)), by omega, _, rfl, Or.inl (gwi 1542 (by decide +kernel) (by decide +kernel))⟩
theorem c_RL_233 : CaV RL 233 m_X3_answers 0 8 := ⟨⟨(gwi 176 (by decide +kernel) (by decide +kernel)), (gwi 1 (by decide +kernel) (by decide +kernel)), (gwi 179 (by decide +kernel) (by decide +kernel)), by decide, by decide +kernel, by decide⟩, (gwi 177 (by decide +kernel) (by decide +kernel)), by omega, _, rfl, Or.inl (gwi 178 (by decide +kernel) (by decide +kernel))⟩
theorem c_RL_236 : CaV RL 236 m_X4_answers 0 9 := ⟨⟨(gwi 1552 (by decide +kernel) (by decide +kernel)), (gwi 9 (by decide +kernel) (by decide +kernel)), (gwi 1555 (by decide +kernel) (by decide +kernel)), by decide, by decide +kernel, by decide⟩, (gwi 1553 (by decide +kernel) (by decide +kernel)), by omega, _, rfl, Or.inl (gwi 1554 (by decide +kernel) (by decide +kernel))⟩
theorem c_RL_237 : CaV RL 237 m_X3_allLevels 0 8 := ⟨⟨(gwi 180 (by decide +kernel) (by decide +kernel)), (gwi 1 (by decide +kernel) (by decide +kernel)), (gwi 183 (by decide +kernel) (by decide +kernel)), by decide, by decide +kernel, by decide⟩, (gwi 181 (by decide +kernel) (by decide +kernel)), by omega, _, rfl, Or.inl (gwi 182 (by decide +kernel) (by decide +kernel))⟩
theorem c_RL_241 : CaV RL 241 m_X4_allLevels 0 9 := ⟨⟨(gwi 1556 (by decide +kernel) (by decide +kernel)), (gwi 9 (by decide +kernel) (by decide +kernel)), (gwi 1559 (by decide +kernel) (by decide +kernel)), by decide, by decide +kernel, by decide⟩, (gwi 1557 (by decide +kernel) (by decide +kernel)), by omega, _, rfl, Or.inl (gwi 1558 (by decide +kernel) (by decide +kernel))⟩
theorem c_RL_242 : CaH RL 242 m_L_rightShare 2 := ⟨⟨(gwi 1180 (by decide +kernel) (by decide +kernel)), (gwi 0 (by decide +kernel) (by decide +kernel)), (gwi 1182 (by decide +kernel) (by decide +kernel)), by decide, by decide +kernel, by decide⟩, (gwi 1181 (by decide +kernel) (by decide +kernel))⟩
theorem c_RL_245 : CaV RL 245 m_X4_rightShare 0 9 := ⟨⟨(gwi 1560 (by decide +kernel) (by decide +kernel)), (gwi 9 (by decide +kernel) (by decide +kernel)), (gwi 1563 (by decide +kernel) (by decide +kernel)), by decide, by decide +kernel, by decide⟩, (gwi 1561 (by decide +kernel) (by decide +kernel)), by omega, _, rfl, Or.inl (gwi 1562 (by decide +kernel) (by decide +kernel))⟩
theorem c_RL_246 : CaH RL 246 m_L_meanLevel 2 := ⟨⟨(gwi 1204 (by decide +kernel) (by decide +kernel)), (gwi 0 (by decide +kernel) (by decide +kernel)), (gwi 1206 (by decide +kernel) (by decide +kernel)), by decide, by decide +kernel, by decide⟩, (gwi 1205 (by decide +kernel) (by decide +kernel))⟩
theorem c_RL_248 : CaV RL 248 m_X4_meanLevel 0 9 := ⟨⟨(gwi 1564 (by decide +kernel) (by decide +kernel)), (gwi 9 (by decide +kernel) (by decide +kernel)), (gwi 1567 (by decide +kernel) (by decide +kernel)), by decide, by decide +kernel, by decide⟩, (gwi 1565 (by decide +kernel) (by decide +kernel)), by omega, _, rfl, Or.inl (gwi 1566 (by decide +kernel) (by decide +kernel))⟩
theorem c_RL_249 : CaV RL 249 m_X3_isSound 0 8 := ⟨⟨(gwi 185 (by decide +kernel) (by decide +kernel)), (gwi 1 (by decide +kernel) (by decide +kernel)), (gwi 188 (by decide +kernel) (by decide +kernel)), by decide, by decide +kernel, by decide⟩, (gwi 186 (by decide +kernel) (by decide +kernel)), by omega, _, rfl, Or.inl (gwi 187 (by decide +kernel) (by decide +kernel))⟩
theorem c_RL_253 : CaV RL 253 m_X4_isSound 0 9 := ⟨⟨(gwi 1568 (by decide +kernel) (by decide +kernel)), (gwi 9 (by decide +kernel) (by decide +kernel)), (gwi 1571 (by decide +kernel) (by decide +kernel)), by decide, by decide +kernel, by decide⟩, (gwi 1569 (by decide +kernel) (by decide +kernel)), by omega, _, rfl, Or.inl (gwi 1570 (by decide +kernel) (by decide +kernel))⟩
theorem c_RJ4_1 : CaI RJ4 1 m_J5_init_d00df 1 := ⟨⟨(gwi 73 (by decide +kernel) (by decide +kernel)), (gwi 5 (by decide +kernel) (by decide +kernel)), (gwi 75 (by decide +kernel) (by decide +kernel)), by decide, by decide +kernel, by decide⟩, (gwi 74 (by decide +kernel) (by decide +kernel)), rfl⟩
theorem f_RJ5_15 : Fl RJ5 15 1 0 (.array .byte) false := ⟨_, _, _, _, "java/lang/AbstractStringBuilder", cl_1, by omega, (gwi 86 (by decide +kernel) (by decide +kernel)), Or.inl rfl, rfl, rfl, fun q => nomatch q⟩
theorem fg_RJ5_15 : FlG RJ5 15 1 0 := f_RJ5_15.g
theorem f_RJ5_22 : Fl RJ5 22 1 1 (.byte) false := ⟨_, _, _, _, "java/lang/AbstractStringBuilder", cl_1, by omega, (gwi 87 (by decide +kernel) (by decide +kernel)), Or.inl rfl, rfl, rfl, fun q => nomatch q⟩
theorem fg_RJ5_22 : FlG RJ5 22 1 1 := f_RJ5_22.g
theorem c_RJ5_26 : CaS RJ5 26 m_J2_newBytesFor_77867 1 := ⟨⟨(gwi 79 (by decide +kernel) (by decide +kernel)), (gwi 8 (by decide +kernel) (by decide +kernel)), (gwi 81 (by decide +kernel) (by decide +kernel)), by decide, by decide +kernel, by decide⟩, (gwi 80 (by decide +kernel) (by decide +kernel))⟩
theorem c_RJx4a65c_1 : CaI RJx4a65c 1 m_Jxc12de_init_da8c8 0 := ⟨⟨(gwi 46 (by decide +kernel) (by decide +kernel)), (gwi 3 (by decide +kernel) (by decide +kernel)), (gwi 48 (by decide +kernel) (by decide +kernel)), by decide, by decide +kernel, by decide⟩, (gwi 47 (by decide +kernel) (by decide +kernel)), rfl⟩
theorem f_RJx4a65c_9 : Fl RJx4a65c 9 4 1 (.array (.object "java/lang/Object")) false := ⟨_, _, _, _, "java/util/ArrayList", cl_4, by omega, (gwi 55 (by decide +kernel) (by decide +kernel)), Or.inl rfl, rfl, rfl, fun q => nomatch q⟩
theorem fg_RJx4a65c_9 : FlG RJx4a65c 9 4 1 := f_RJx4a65c_9.g
theorem c_RJxc12de_1 : CaI RJxc12de 1 m_Jxa1e45_init_da8c8 0 := ⟨⟨(gwi 49 (by decide +kernel) (by decide +kernel)), (gwi 2 (by decide +kernel) (by decide +kernel)), (gwi 51 (by decide +kernel) (by decide +kernel)), by decide, by decide +kernel, by decide⟩, (gwi 50 (by decide +kernel) (by decide +kernel)), rfl⟩
theorem f_RJxc12de_7 : Fl RJxc12de 7 4 0 (.int) false := ⟨_, _, _, _, "java/util/AbstractList", cl_4, by omega, (gwi 57 (by decide +kernel) (by decide +kernel)), Or.inl rfl, rfl, rfl, fun q => nomatch q⟩
theorem fg_RJxc12de_7 : FlG RJxc12de 7 4 0 := f_RJxc12de_7.g
theorem f_RJx4a65c_48 : Fl RJx4a65c 48 4 2 (.int) false := ⟨_, _, _, _, "java/util/ArrayList", cl_4, by omega, (gwi 56 (by decide +kernel) (by decide +kernel)), Or.inl rfl, rfl, rfl, fun q => nomatch q⟩
theorem fg_RJx4a65c_48 : FlG RJx4a65c 48 4 2 := f_RJx4a65c_48.g
theorem c_RJx4a65c_118 : CaS RJx4a65c 118 m_J15_checkIndex_7cf53 2 := ⟨⟨(gwi 161 (by decide +kernel) (by decide +kernel)), (gwi 21 (by decide +kernel) (by decide +kernel)), (gwi 163 (by decide +kernel) (by decide +kernel)), by decide, by decide +kernel, by decide⟩, (gwi 162 (by decide +kernel) (by decide +kernel))⟩
theorem c_RJx4a65c_123 : CaV RJx4a65c 123 m_Jx4a65c_elementData_915e3 1 4 := ⟨⟨(gwi 167 (by decide +kernel) (by decide +kernel)), (gwi 4 (by decide +kernel) (by decide +kernel)), (gwi 170 (by decide +kernel) (by decide +kernel)), by decide, by decide +kernel, by decide⟩, (gwi 168 (by decide +kernel) (by decide +kernel)), by omega, _, rfl, Or.inl (gwi 169 (by decide +kernel) (by decide +kernel))⟩
theorem c_RJ15_105 : CaS RJ15 105 m_J3_checkIndex_8e157 3 := ⟨⟨(gwi 164 (by decide +kernel) (by decide +kernel)), (gwi 22 (by decide +kernel) (by decide +kernel)), (gwi 166 (by decide +kernel) (by decide +kernel)), by decide, by decide +kernel, by decide⟩, (gwi 165 (by decide +kernel) (by decide +kernel))⟩
theorem c_RJx4a65c_129 : CaV RJx4a65c 129 m_Jx4a65c_grow_d5877 0 4 := ⟨⟨(gwi 440 (by decide +kernel) (by decide +kernel)), (gwi 4 (by decide +kernel) (by decide +kernel)), (gwi 443 (by decide +kernel) (by decide +kernel)), by decide, by decide +kernel, by decide⟩, (gwi 442 (by decide +kernel) (by decide +kernel)), by omega, _, rfl, Or.inl (gwp 5 (by decide +kernel) (by decide +kernel))⟩
theorem f_RJx4a65c_63 : Fl RJx4a65c 63 4 0 (.int) false := ⟨_, _, _, _, "java/util/ArrayList", cl_4, by omega, (gwi 58 (by decide +kernel) (by decide +kernel)), Or.inr (gwi 59 (by decide +kernel) (by decide +kernel)), rfl, rfl, fun q => nomatch q⟩
theorem fg_RJx4a65c_63 : FlG RJx4a65c 63 4 0 := f_RJx4a65c_63.g
theorem c_RJx4a65c_131 : CaV RJx4a65c 131 m_Jx4a65c_add_72be8 3 4 := ⟨⟨(gwi 436 (by decide +kernel) (by decide +kernel)), (gwi 4 (by decide +kernel) (by decide +kernel)), (gwi 439 (by decide +kernel) (by decide +kernel)), by decide, by decide +kernel, by decide⟩, (gwi 438 (by decide +kernel) (by decide +kernel)), by omega, _, rfl, Or.inl (gwp 4 (by decide +kernel) (by decide +kernel))⟩
theorem c_RJx4a65c_135 : CaV RJx4a65c 135 m_Jx4a65c_rangeCheckForAdd_d00df 1 4 := ⟨⟨(gwi 647 (by decide +kernel) (by decide +kernel)), (gwi 4 (by decide +kernel) (by decide +kernel)), (gwi 650 (by decide +kernel) (by decide +kernel)), by decide, by decide +kernel, by decide⟩, (gwi 649 (by decide +kernel) (by decide +kernel)), by omega, _, rfl, Or.inl (gwp 18 (by decide +kernel) (by decide +kernel))⟩
theorem c_RJx4a65c_198 : CaV RJx4a65c 198 m_Jx4a65c_outOfBoundsMsg_b52d3 1 4 := ⟨⟨(gwi 652 (by decide +kernel) (by decide +kernel)), (gwi 4 (by decide +kernel) (by decide +kernel)), (gwi 655 (by decide +kernel) (by decide +kernel)), by decide, by decide +kernel, by decide⟩, (gwi 654 (by decide +kernel) (by decide +kernel)), by omega, _, rfl, Or.inl (gwp 19 (by decide +kernel) (by decide +kernel))⟩
theorem c_RJx4a65c_73 : CaS RJx4a65c 73 m_J8_newLength_cabcc 3 := ⟨⟨(gwi 448 (by decide +kernel) (by decide +kernel)), (gwi 20 (by decide +kernel) (by decide +kernel)), (gwi 450 (by decide +kernel) (by decide +kernel)), by decide, by decide +kernel, by decide⟩, (gwi 449 (by decide +kernel) (by decide +kernel))⟩
theorem c_RJx4a65c_66 : CaS RJx4a65c 66 m_J7_copyOf_1904c 2 := ⟨⟨(gwi 456 (by decide +kernel) (by decide +kernel)), (gwi 17 (by decide +kernel) (by decide +kernel)), (gwi 458 (by decide +kernel) (by decide +kernel)), by decide, by decide +kernel, by decide⟩, (gwi 457 (by decide +kernel) (by decide +kernel))⟩
theorem c_RJx4a65c_79 : CaS RJx4a65c 79 m_J9_max_7cf53 2 := ⟨⟨(gwi 485 (by decide +kernel) (by decide +kernel)), (gwi 18 (by decide +kernel) (by decide +kernel)), (gwi 202 (by decide +kernel) (by decide +kernel)), by decide, by decide +kernel, by decide⟩, (gwi 201 (by decide +kernel) (by decide +kernel))⟩
theorem c_RJx4a65c_69 : CaV RJx4a65c 69 m_Jx4a65c_grow_92f84 1 4 := ⟨⟨(gwi 444 (by decide +kernel) (by decide +kernel)), (gwi 4 (by decide +kernel) (by decide +kernel)), (gwi 447 (by decide +kernel) (by decide +kernel)), by decide, by decide +kernel, by decide⟩, (gwi 446 (by decide +kernel) (by decide +kernel)), by omega, _, rfl, Or.inl (gwp 6 (by decide +kernel) (by decide +kernel))⟩
theorem c_RJ8_194 : CaS RJ8 194 m_J9_max_7cf53 2 := ⟨⟨(gwi 451 (by decide +kernel) (by decide +kernel)), (gwi 18 (by decide +kernel) (by decide +kernel)), (gwi 202 (by decide +kernel) (by decide +kernel)), by decide, by decide +kernel, by decide⟩, (gwi 201 (by decide +kernel) (by decide +kernel))⟩
theorem c_RJ8_201 : CaS RJ8 201 m_J8_hugeLength_7cf53 2 := ⟨⟨(gwi 453 (by decide +kernel) (by decide +kernel)), (gwi 20 (by decide +kernel) (by decide +kernel)), (gwi 455 (by decide +kernel) (by decide +kernel)), by decide, by decide +kernel, by decide⟩, (gwi 454 (by decide +kernel) (by decide +kernel))⟩
theorem c_RJ7_300 : CaS RJ7 300 m_J7_copyOf_6403c 3 := ⟨⟨(gwi 479 (by decide +kernel) (by decide +kernel)), (gwi 17 (by decide +kernel) (by decide +kernel)), (gwi 481 (by decide +kernel) (by decide +kernel)), by decide, by decide +kernel, by decide⟩, (gwi 480 (by decide +kernel) (by decide +kernel))⟩
theorem k_RJ7_110 : Cond.classLink RJ7 110 "[Ljava/lang/Object;" ∈ GW := (gwi 482 (by decide +kernel) (by decide +kernel))
theorem c_RJ7_304 : CaS RJ7 304 m_J9_min_7cf53 2 := ⟨⟨(gwi 384 (by decide +kernel) (by decide +kernel)), (gwi 18 (by decide +kernel) (by decide +kernel)), (gwi 205 (by decide +kernel) (by decide +kernel)), by decide, by decide +kernel, by decide⟩, (gwi 204 (by decide +kernel) (by decide +kernel))⟩
theorem k_RJ7_311 : Cond.classLink RJ7 311 "[B" ∈ GW := (gwi 687 (by decide +kernel) (by decide +kernel))
theorem k_RJ7_317 : Cond.classLink RJ7 317 "[I" ∈ GW := (gwi 383 (by decide +kernel) (by decide +kernel))
theorem c_RJx4a65c_144 : CaV RJx4a65c 144 m_Jx4a65c_fastRemove_b59b0 2 4 := ⟨⟨(gwi 502 (by decide +kernel) (by decide +kernel)), (gwi 4 (by decide +kernel) (by decide +kernel)), (gwi 505 (by decide +kernel) (by decide +kernel)), by decide, by decide +kernel, by decide⟩, (gwi 504 (by decide +kernel) (by decide +kernel)), by omega, _, rfl, Or.inl (gwp 9 (by decide +kernel) (by decide +kernel))⟩
theorem c_RJ4_333 : CaU RJ4 333 m_J5_setLength_d00df 1 1 := ⟨⟨(gwi 1099 (by decide +kernel) (by decide +kernel)), (gwi 5 (by decide +kernel) (by decide +kernel)), (gwi 1101 (by decide +kernel) (by decide +kernel)), by decide, by decide +kernel, by decide⟩, (gwi 1583 (by decide +kernel) (by decide +kernel)), (gwi 99 (by decide +kernel) (by decide +kernel)), (gwi 1100 (by decide +kernel) (by decide +kernel)), by decide, by omega, _, rfl⟩
theorem c_RJ5_131 : CaI RJ5 131 m_Jx7c733_init_d00df 1 := ⟨⟨(gwi 1104 (by decide +kernel) (by decide +kernel)), (gwi 31 (by decide +kernel) (by decide +kernel)), (gwi 1106 (by decide +kernel) (by decide +kernel)), by decide, by decide +kernel, by decide⟩, (gwi 1105 (by decide +kernel) (by decide +kernel)), rfl⟩
theorem c_RJ5_100 : CaV RJ5 100 m_J5_ensureCapacityInternal_d00df 1 1 := ⟨⟨(gwi 670 (by decide +kernel) (by decide +kernel)), (gwi 5 (by decide +kernel) (by decide +kernel)), (gwi 673 (by decide +kernel) (by decide +kernel)), by decide, by decide +kernel, by decide⟩, (gwi 672 (by decide +kernel) (by decide +kernel)), by omega, _, rfl, Or.inl (gwx 0 (by decide +kernel) (by decide +kernel))⟩
theorem f_RJ5_79 : Fl RJ5 79 1 3 (.int) false := ⟨_, _, _, _, "java/lang/AbstractStringBuilder", cl_1, by omega, (gwi 90 (by decide +kernel) (by decide +kernel)), Or.inl rfl, rfl, rfl, fun q => nomatch q⟩
theorem fg_RJ5_79 : FlG RJ5 79 1 3 := f_RJ5_79.g
theorem c_RJ5_83 : CaV RJ5 83 m_J5_isLatin1_aae02 0 1 := ⟨⟨(gwi 688 (by decide +kernel) (by decide +kernel)), (gwi 5 (by decide +kernel) (by decide +kernel)), (gwi 692 (by decide +kernel) (by decide +kernel)), by decide, by decide +kernel, by decide⟩, (gwi 689 (by decide +kernel) (by decide +kernel)), by omega, _, rfl, Or.inl (gwi 691 (by decide +kernel) (by decide +kernel))⟩
theorem c_RJ5_133 : CaS RJ5 133 m_J1_fillNull_b72d1 3 := ⟨⟨(gwi 1121 (by decide +kernel) (by decide +kernel)), (gwi 26 (by decide +kernel) (by decide +kernel)), (gwi 1123 (by decide +kernel) (by decide +kernel)), by decide, by decide +kernel, by decide⟩, (gwi 1122 (by decide +kernel) (by decide +kernel))⟩
theorem c_RJ5_137 : CaS RJ5 137 m_J2_fillNull_b72d1 3 := ⟨⟨(gwi 1143 (by decide +kernel) (by decide +kernel)), (gwi 8 (by decide +kernel) (by decide +kernel)), (gwi 1145 (by decide +kernel) (by decide +kernel)), by decide, by decide +kernel, by decide⟩, (gwi 1144 (by decide +kernel) (by decide +kernel))⟩
theorem f_RJ5_73 : Fl RJ5 73 1 2 (.boolean) false := ⟨_, _, _, _, "java/lang/AbstractStringBuilder", cl_1, by omega, (gwi 88 (by decide +kernel) (by decide +kernel)), Or.inl rfl, rfl, rfl, fun q => nomatch q⟩
theorem fg_RJ5_73 : FlG RJ5 73 1 2 := f_RJ5_73.g
theorem c_RJ5_104 : CaV RJ5 104 m_J5_newCapacity_0f7a4 1 1 := ⟨⟨(gwi 674 (by decide +kernel) (by decide +kernel)), (gwi 5 (by decide +kernel) (by decide +kernel)), (gwi 677 (by decide +kernel) (by decide +kernel)), by decide, by decide +kernel, by decide⟩, (gwi 676 (by decide +kernel) (by decide +kernel)), by omega, _, rfl, Or.inl (gwx 1 (by decide +kernel) (by decide +kernel))⟩
theorem c_RJ5_108 : CaS RJ5 108 m_J7_copyOf_9075b 2 := ⟨⟨(gwi 680 (by decide +kernel) (by decide +kernel)), (gwi 17 (by decide +kernel) (by decide +kernel)), (gwi 682 (by decide +kernel) (by decide +kernel)), by decide, by decide +kernel, by decide⟩, (gwi 681 (by decide +kernel) (by decide +kernel))⟩
theorem c_RJ5_114 : CaS RJ5 114 m_J8_newLength_cabcc 3 := ⟨⟨(gwi 678 (by decide +kernel) (by decide +kernel)), (gwi 20 (by decide +kernel) (by decide +kernel)), (gwi 450 (by decide +kernel) (by decide +kernel)), by decide, by decide +kernel, by decide⟩, (gwi 449 (by decide +kernel) (by decide +kernel))⟩
theorem c_RJ1_236 : CaS RJ1 236 m_J7_fill_eb02e 4 := ⟨⟨(gwi 1124 (by decide +kernel) (by decide +kernel)), (gwi 17 (by decide +kernel) (by decide +kernel)), (gwi 1126 (by decide +kernel) (by decide +kernel)), by decide, by decide +kernel, by decide⟩, (gwi 1125 (by decide +kernel) (by decide +kernel))⟩
theorem c_RJ7_13 : CaS RJ7 13 m_J7_rangeCheck_23922 3 := ⟨⟨(gwi 1127 (by decide +kernel) (by decide +kernel)), (gwi 17 (by decide +kernel) (by decide +kernel)), (gwi 1129 (by decide +kernel) (by decide +kernel)), by decide, by decide +kernel, by decide⟩, (gwi 1128 (by decide +kernel) (by decide +kernel))⟩
theorem n_RJ7_45 : Nw RJ7 45 1 4 := ⟨_, _, _, cl_1, (gwi 824 (by decide +kernel) (by decide +kernel)), (gwi 69 (by decide +kernel) (by decide +kernel)), (gwi 6 (by decide +kernel) (by decide +kernel)), by decide⟩
theorem c_RJ7_47 : CaI RJ7 47 m_J4_init_da8c8 0 := ⟨⟨(gwi 825 (by decide +kernel) (by decide +kernel)), (gwi 6 (by decide +kernel) (by decide +kernel)), (gwi 72 (by decide +kernel) (by decide +kernel)), by decide, by decide +kernel, by decide⟩, (gwi 71 (by decide +kernel) (by decide +kernel)), rfl⟩
theorem c_RJ7_50 : CaV RJ7 50 m_J4_append_15ec4 1 1 := ⟨⟨(gwi 828 (by decide +kernel) (by decide +kernel)), (gwi 6 (by decide +kernel) (by decide +kernel)), (gwi 662 (by decide +kernel) (by decide +kernel)), by decide, by decide +kernel, by decide⟩, (gwi 660 (by decide +kernel) (by decide +kernel)), by omega, _, rfl, Or.inl (gwi 661 (by decide +kernel) (by decide +kernel))⟩
theorem c_RJ7_54 : CaV RJ7 54 m_J4_append_bf812 1 1 := ⟨⟨(gwi 826 (by decide +kernel) (by decide +kernel)), (gwi 6 (by decide +kernel) (by decide +kernel)), (gwi 765 (by decide +kernel) (by decide +kernel)), by decide, by decide +kernel, by decide⟩, (gwi 763 (by decide +kernel) (by decide +kernel)), by omega, _, rfl, Or.inl (gwi 764 (by decide +kernel) (by decide +kernel))⟩
theorem c_RJ7_61 : CaV RJ7 61 m_J4_toString_0e30d 0 1 := ⟨⟨(gwi 829 (by decide +kernel) (by decide +kernel)), (gwi 6 (by decide +kernel) (by decide +kernel)), (gwi 791 (by decide +kernel) (by decide +kernel)), by decide, by decide +kernel, by decide⟩, (gwi 789 (by decide +kernel) (by decide +kernel)), by omega, _, rfl, Or.inl (gwi 790 (by decide +kernel) (by decide +kernel))⟩
theorem c_RJ7_70 : CaI RJ7 70 m_Jx00060_init_d00df 1 := ⟨⟨(gwi 1134 (by decide +kernel) (by decide +kernel)), (gwi 25 (by decide +kernel) (by decide +kernel)), (gwi 1136 (by decide +kernel) (by decide +kernel)), by decide, by decide +kernel, by decide⟩, (gwi 1135 (by decide +kernel) (by decide +kernel)), rfl⟩
theorem c_RJ4_50 : CaU RJ4 50 m_J5_append_3fe6f 1 1 := ⟨⟨(gwi 1152 (by decide +kernel) (by decide +kernel)), (gwi 5 (by decide +kernel) (by decide +kernel)), (gwi 1154 (by decide +kernel) (by decide +kernel)), by decide, by decide +kernel, by decide⟩, (gwi 1584 (by decide +kernel) (by decide +kernel)), (gwi 99 (by decide +kernel) (by decide +kernel)), (gwi 1153 (by decide +kernel) (by decide +kernel)), by decide, by omega, _, rfl⟩
theorem c_RJ5_191 : CaS RJ5 191 m_J1_canEncode_fc78d 1 := ⟨⟨(gwi 1155 (by decide +kernel) (by decide +kernel)), (gwi 26 (by decide +kernel) (by decide +kernel)), (gwi 1157 (by decide +kernel) (by decide +kernel)), by decide, by decide +kernel, by decide⟩, (gwi 1156 (by decide +kernel) (by decide +kernel))⟩
theorem c_RJ5_195 : CaV RJ5 195 m_J5_inflate_da8c8 0 1 := ⟨⟨(gwi 737 (by decide +kernel) (by decide +kernel)), (gwi 5 (by decide +kernel) (by decide +kernel)), (gwi 740 (by decide +kernel) (by decide +kernel)), by decide, by decide +kernel, by decide⟩, (gwi 739 (by decide +kernel) (by decide +kernel)), by omega, _, rfl, Or.inl (gwx 2 (by decide +kernel) (by decide +kernel))⟩
theorem c_RJ5_197 : CaS RJ5 197 m_J2_putCharSB_b72d1 3 := ⟨⟨(gwi 1158 (by decide +kernel) (by decide +kernel)), (gwi 8 (by decide +kernel) (by decide +kernel)), (gwi 1160 (by decide +kernel) (by decide +kernel)), by decide, by decide +kernel, by decide⟩, (gwi 1159 (by decide +kernel) (by decide +kernel))⟩
theorem c_RJ4_53 : CaU RJ4 53 m_J5_append_c97b9 1 1 := ⟨⟨(gwi 766 (by decide +kernel) (by decide +kernel)), (gwi 5 (by decide +kernel) (by decide +kernel)), (gwi 768 (by decide +kernel) (by decide +kernel)), by decide, by decide +kernel, by decide⟩, (gwi 1582 (by decide +kernel) (by decide +kernel)), (gwi 99 (by decide +kernel) (by decide +kernel)), (gwi 767 (by decide +kernel) (by decide +kernel)), by decide, by omega, _, rfl⟩
theorem c_RJ5_245 : CaS RJ5 245 m_J6_stringSize_0f7a4 1 := ⟨⟨(gwi 769 (by decide +kernel) (by decide +kernel)), (gwi 28 (by decide +kernel) (by decide +kernel)), (gwi 771 (by decide +kernel) (by decide +kernel)), by decide, by decide +kernel, by decide⟩, (gwi 770 (by decide +kernel) (by decide +kernel))⟩
theorem c_RJ5_248 : CaS RJ5 248 m_J6_getChars_ba4f3 3 := ⟨⟨(gwi 772 (by decide +kernel) (by decide +kernel)), (gwi 28 (by decide +kernel) (by decide +kernel)), (gwi 774 (by decide +kernel) (by decide +kernel)), by decide, by decide +kernel, by decide⟩, (gwi 773 (by decide +kernel) (by decide +kernel))⟩
theorem c_RJ5_251 : CaS RJ5 251 m_J2_getChars_46870 4 := ⟨⟨(gwi 779 (by decide +kernel) (by decide +kernel)), (gwi 8 (by decide +kernel) (by decide +kernel)), (gwi 781 (by decide +kernel) (by decide +kernel)), by decide, by decide +kernel, by decide⟩, (gwi 780 (by decide +kernel) (by decide +kernel))⟩
theorem c_RJ4_343 : CaU RJ4 343 m_J5_length_8abf5 0 1 := ⟨⟨(gwi 811 (by decide +kernel) (by decide +kernel)), (gwi 5 (by decide +kernel) (by decide +kernel)), (gwi 812 (by decide +kernel) (by decide +kernel)), by decide, by decide +kernel, by decide⟩, (gwi 807 (by decide +kernel) (by decide +kernel)), (gwi 99 (by decide +kernel) (by decide +kernel)), (gwi 806 (by decide +kernel) (by decide +kernel)), by decide, by omega, _, rfl⟩
theorem c_RJ4_329 : CaU RJ4 329 m_J5_charAt_5068e 1 1 := ⟨⟨(gwi 1174 (by decide +kernel) (by decide +kernel)), (gwi 5 (by decide +kernel) (by decide +kernel)), (gwi 1176 (by decide +kernel) (by decide +kernel)), by decide, by decide +kernel, by decide⟩, (gwi 1586 (by decide +kernel) (by decide +kernel)), (gwi 99 (by decide +kernel) (by decide +kernel)), (gwi 1175 (by decide +kernel) (by decide +kernel)), by decide, by omega, _, rfl⟩
theorem c_RJ5_138 : CaS RJ5 138 m_J9_min_7cf53 2 := ⟨⟨(gwi 1177 (by decide +kernel) (by decide +kernel)), (gwi 18 (by decide +kernel) (by decide +kernel)), (gwi 205 (by decide +kernel) (by decide +kernel)), by decide, by decide +kernel, by decide⟩, (gwi 204 (by decide +kernel) (by decide +kernel))⟩
theorem c_RJ5_144 : CaS RJ5 144 m_J0_checkIndex_df160 2 := ⟨⟨(gwi 1178 (by decide +kernel) (by decide +kernel)), (gwi 7 (by decide +kernel) (by decide +kernel)), (gwi 1166 (by decide +kernel) (by decide +kernel)), by decide, by decide +kernel, by decide⟩, (gwi 1165 (by decide +kernel) (by decide +kernel))⟩
theorem c_RJ5_148 : CaS RJ5 148 m_J2_getChar_3b067 2 := ⟨⟨(gwi 1179 (by decide +kernel) (by decide +kernel)), (gwi 8 (by decide +kernel) (by decide +kernel)), (gwi 839 (by decide +kernel) (by decide +kernel)), by decide, by decide +kernel, by decide⟩, (gwi 838 (by decide +kernel) (by decide +kernel))⟩
theorem tw_50 : (∀ w ∈ (vx_atS RX3 50 "java/lang/IllegalArgumentException" z_nm).filter goodWord, w ∈ lw_tbl) ∧ (∀ w ∈ (vx_atS RX3 50 "java/lang/IllegalArgumentException" z_nm).filter (fun w => !goodWord w), w ∈ Cond.castable "java/lang/IllegalArgumentException" "java/lang/IllegalArgumentException" :: z_decl.map .declares) ∧ (∀ w ∈ Cond.classLink RX3 46 "java/lang/IllegalArgumentException" :: Cond.initialized "java/lang/IllegalArgumentException" :: vx_atS RX3 50 "java/lang/IllegalArgumentException" z_nm, vx_ot w = true) := ⟨by decide +kernel, by decide +kernel, by decide +kernel⟩
theorem tw_61 : (∀ w ∈ (vx_atS RX3 61 "java/lang/IllegalStateException" z_nm).filter goodWord, w ∈ lw_tbl) ∧ (∀ w ∈ (vx_atS RX3 61 "java/lang/IllegalStateException" z_nm).filter (fun w => !goodWord w), w ∈ Cond.castable "java/lang/IllegalStateException" "java/lang/IllegalStateException" :: z_decl.map .declares) ∧ (∀ w ∈ Cond.classLink RX3 57 "java/lang/IllegalStateException" :: Cond.initialized "java/lang/IllegalStateException" :: vx_atS RX3 61 "java/lang/IllegalStateException" z_nm, vx_ot w = true) := ⟨by decide +kernel, by decide +kernel, by decide +kernel⟩
theorem tw_68 : (∀ w ∈ (vx_atS RX3 68 "java/lang/UnsupportedOperationException" z_nm).filter goodWord, w ∈ lw_tbl) ∧ (∀ w ∈ (vx_atS RX3 68 "java/lang/UnsupportedOperationException" z_nm).filter (fun w => !goodWord w), w ∈ Cond.castable "java/lang/UnsupportedOperationException" "java/lang/UnsupportedOperationException" :: z_decl.map .declares) ∧ (∀ w ∈ Cond.classLink RX3 64 "java/lang/UnsupportedOperationException" :: Cond.initialized "java/lang/UnsupportedOperationException" :: vx_atS RX3 68 "java/lang/UnsupportedOperationException" z_nm, vx_ot w = true) := ⟨by decide +kernel, by decide +kernel, by decide +kernel⟩
theorem tn_115 : (∀ w ∈ (z_nseL 115).filter goodWord, w ∈ lw_tbl) ∧ (∀ w ∈ (z_nseL 115).filter (fun w => !goodWord w), w ∈ Cond.castable z_nse z_nse :: z_decl.map .declares) ∧ (∀ w ∈ Cond.classLink RX3 113 z_nse :: Cond.initialized z_nse :: z_nseL 115, vx_ot w = true) := ⟨by decide +kernel, by decide +kernel, by decide +kernel⟩
theorem tw_297 : (∀ w ∈ (vx_atS RX3 297 "java/lang/ArithmeticException" z_nm).filter goodWord, w ∈ lw_tbl) ∧ (∀ w ∈ (vx_atS RX3 297 "java/lang/ArithmeticException" z_nm).filter (fun w => !goodWord w), w ∈ Cond.castable "java/lang/ArithmeticException" "java/lang/ArithmeticException" :: z_decl.map .declares) ∧ (∀ w ∈ Cond.classLink RX3 293 "java/lang/ArithmeticException" :: Cond.initialized "java/lang/ArithmeticException" :: vx_atS RX3 297 "java/lang/ArithmeticException" z_nm, vx_ot w = true) := ⟨by decide +kernel, by decide +kernel, by decide +kernel⟩
theorem tw_317 : (∀ w ∈ (vx_atS RX3 317 "java/lang/IndexOutOfBoundsException" z_nm).filter goodWord, w ∈ lw_tbl) ∧ (∀ w ∈ (vx_atS RX3 317 "java/lang/IndexOutOfBoundsException" z_nm).filter (fun w => !goodWord w), w ∈ Cond.castable "java/lang/IndexOutOfBoundsException" "java/lang/IndexOutOfBoundsException" :: z_decl.map .declares) ∧ (∀ w ∈ Cond.classLink RX3 313 "java/lang/IndexOutOfBoundsException" :: Cond.initialized "java/lang/IndexOutOfBoundsException" :: vx_atS RX3 317 "java/lang/IndexOutOfBoundsException" z_nm, vx_ot w = true) := ⟨by decide +kernel, by decide +kernel, by decide +kernel⟩
theorem t_RX3_46_48 : ThW RX3 46 48 50 "java/lang/IllegalArgumentException" "no such word" := ⟨rfl, by decide, by decide, (gwi 315 (by decide +kernel) (by decide +kernel)), (gwi 13 (by decide +kernel) (by decide +kernel)), by decide, by decide, tw_50.1, tw_50.2.1, tw_50.2.2⟩
theorem t_RX3_57_59 : ThW RX3 57 59 61 "java/lang/IllegalStateException" "the row is full" := ⟨rfl, by decide, by decide, (gwi 331 (by decide +kernel) (by decide +kernel)), (gwi 14 (by decide +kernel) (by decide +kernel)), by decide, by decide, tw_61.1, tw_61.2.1, tw_61.2.2⟩
theorem t_RX3_46_62 : ThW RX3 46 62 50 "java/lang/IllegalArgumentException" "the level is out of range" := ⟨rfl, by decide, by decide, (gwi 315 (by decide +kernel) (by decide +kernel)), (gwi 13 (by decide +kernel) (by decide +kernel)), by decide, by decide, tw_50.1, tw_50.2.1, tw_50.2.2⟩
theorem t_RX3_64_66 : ThW RX3 64 66 68 "java/lang/UnsupportedOperationException" "the row is empty" := ⟨rfl, by decide, by decide, (gwi 356 (by decide +kernel) (by decide +kernel)), (gwi 15 (by decide +kernel) (by decide +kernel)), by decide, by decide, tw_68.1, tw_68.2.1, tw_68.2.2⟩
theorem t_RX3_57_73 : ThW RX3 57 73 61 "java/lang/IllegalStateException" "there are 40 questions" := ⟨rfl, by decide, by decide, (gwi 331 (by decide +kernel) (by decide +kernel)), (gwi 14 (by decide +kernel) (by decide +kernel)), by decide, by decide, tw_61.1, tw_61.2.1, tw_61.2.2⟩
theorem t_RX3_46_97 : ThW RX3 46 97 50 "java/lang/IllegalArgumentException" "a question is no twin of itself" := ⟨rfl, by decide, by decide, (gwi 315 (by decide +kernel) (by decide +kernel)), (gwi 13 (by decide +kernel) (by decide +kernel)), by decide, by decide, tw_50.1, tw_50.2.1, tw_50.2.2⟩
theorem t_RX3_113_48 : ThN RX3 113 48 115 "no such word" := ⟨rfl, (gwi 224 (by decide +kernel) (by decide +kernel)), (gwi 23 (by decide +kernel) (by decide +kernel)), by decide, tn_115.1, tn_115.2.1, tn_115.2.2⟩
theorem t_RX3_57_158 : ThW RX3 57 158 61 "java/lang/IllegalStateException" "it is the last week" := ⟨rfl, by decide, by decide, (gwi 331 (by decide +kernel) (by decide +kernel)), (gwi 14 (by decide +kernel) (by decide +kernel)), by decide, by decide, tw_61.1, tw_61.2.1, tw_61.2.2⟩
theorem t_RX3_46_160 : ThW RX3 46 160 50 "java/lang/IllegalArgumentException" "no such week" := ⟨rfl, by decide, by decide, (gwi 315 (by decide +kernel) (by decide +kernel)), (gwi 13 (by decide +kernel) (by decide +kernel)), by decide, by decide, tw_50.1, tw_50.2.1, tw_50.2.2⟩
theorem t_RX3_46_162 : ThW RX3 46 162 50 "java/lang/IllegalArgumentException" "no such kind" := ⟨rfl, by decide, by decide, (gwi 315 (by decide +kernel) (by decide +kernel)), (gwi 13 (by decide +kernel) (by decide +kernel)), by decide, by decide, tw_50.1, tw_50.2.1, tw_50.2.2⟩
theorem t_RX3_46_164 : ThW RX3 46 164 50 "java/lang/IllegalArgumentException" "the number is out of range" := ⟨rfl, by decide, by decide, (gwi 315 (by decide +kernel) (by decide +kernel)), (gwi 13 (by decide +kernel) (by decide +kernel)), by decide, by decide, tw_50.1, tw_50.2.1, tw_50.2.2⟩
theorem t_RX3_57_166 : ThW RX3 57 166 61 "java/lang/IllegalStateException" "there are 12 plans" := ⟨rfl, by decide, by decide, (gwi 331 (by decide +kernel) (by decide +kernel)), (gwi 14 (by decide +kernel) (by decide +kernel)), by decide, by decide, tw_61.1, tw_61.2.1, tw_61.2.2⟩
theorem t_RX3_64_181 : ThW RX3 64 181 68 "java/lang/UnsupportedOperationException" "the plan is dropped" := ⟨rfl, by decide, by decide, (gwi 356 (by decide +kernel) (by decide +kernel)), (gwi 15 (by decide +kernel) (by decide +kernel)), by decide, by decide, tw_68.1, tw_68.2.1, tw_68.2.2⟩
theorem t_RX3_46_205 : ThW RX3 46 205 50 "java/lang/IllegalArgumentException" "a number is out of range" := ⟨rfl, by decide, by decide, (gwi 315 (by decide +kernel) (by decide +kernel)), (gwi 13 (by decide +kernel) (by decide +kernel)), by decide, by decide, tw_50.1, tw_50.2.1, tw_50.2.2⟩
theorem t_RX3_46_207 : ThW RX3 46 207 50 "java/lang/IllegalArgumentException" "no question is wanted" := ⟨rfl, by decide, by decide, (gwi 315 (by decide +kernel) (by decide +kernel)), (gwi 13 (by decide +kernel) (by decide +kernel)), by decide, by decide, tw_50.1, tw_50.2.1, tw_50.2.2⟩
theorem t_RX3_113_213 : ThN RX3 113 213 115 "there are no candidates" := ⟨rfl, (gwi 224 (by decide +kernel) (by decide +kernel)), (gwi 23 (by decide +kernel) (by decide +kernel)), by decide, tn_115.1, tn_115.2.1, tn_115.2.2⟩
theorem t_RX3_57_215 : ThW RX3 57 215 61 "java/lang/IllegalStateException" "there are 30 sheets" := ⟨rfl, by decide, by decide, (gwi 331 (by decide +kernel) (by decide +kernel)), (gwi 14 (by decide +kernel) (by decide +kernel)), by decide, by decide, tw_61.1, tw_61.2.1, tw_61.2.2⟩
theorem t_RX3_64_233 : ThW RX3 64 233 68 "java/lang/UnsupportedOperationException" "the plan gives no quiz" := ⟨rfl, by decide, by decide, (gwi 356 (by decide +kernel) (by decide +kernel)), (gwi 15 (by decide +kernel) (by decide +kernel)), by decide, by decide, tw_68.1, tw_68.2.1, tw_68.2.2⟩
theorem t_RX3_57_247 : ThW RX3 57 247 61 "java/lang/IllegalStateException" "the spooler is jammed" := ⟨rfl, by decide, by decide, (gwi 331 (by decide +kernel) (by decide +kernel)), (gwi 14 (by decide +kernel) (by decide +kernel)), by decide, by decide, tw_61.1, tw_61.2.1, tw_61.2.2⟩
theorem t_RX3_113_252 : ThN RX3 113 252 115 "no sheet waits" := ⟨rfl, (gwi 224 (by decide +kernel) (by decide +kernel)), (gwi 23 (by decide +kernel) (by decide +kernel)), by decide, tn_115.1, tn_115.2.1, tn_115.2.2⟩
theorem t_RX3_64_260 : ThW RX3 64 260 68 "java/lang/UnsupportedOperationException" "the sheet does not wait" := ⟨rfl, by decide, by decide, (gwi 356 (by decide +kernel) (by decide +kernel)), (gwi 15 (by decide +kernel) (by decide +kernel)), by decide, by decide, tw_68.1, tw_68.2.1, tw_68.2.2⟩
theorem t_RX3_64_262 : ThW RX3 64 262 68 "java/lang/UnsupportedOperationException" "the sheet is not printed" := ⟨rfl, by decide, by decide, (gwi 356 (by decide +kernel) (by decide +kernel)), (gwi 15 (by decide +kernel) (by decide +kernel)), by decide, by decide, tw_68.1, tw_68.2.1, tw_68.2.2⟩
theorem t_RX3_113_268 : ThN RX3 113 268 115 "the question is answered" := ⟨rfl, (gwi 224 (by decide +kernel) (by decide +kernel)), (gwi 23 (by decide +kernel) (by decide +kernel)), by decide, tn_115.1, tn_115.2.1, tn_115.2.2⟩
theorem t_RX3_113_287 : ThN RX3 113 287 115 "no such letter" := ⟨rfl, (gwi 224 (by decide +kernel) (by decide +kernel)), (gwi 23 (by decide +kernel) (by decide +kernel)), by decide, tn_115.1, tn_115.2.1, tn_115.2.2⟩
theorem t_RX3_293_295 : ThW RX3 293 295 297 "java/lang/ArithmeticException" "there are no answers" := ⟨rfl, by decide, by decide, (gwi 1201 (by decide +kernel) (by decide +kernel)), (gwi 32 (by decide +kernel) (by decide +kernel)), by decide, by decide, tw_297.1, tw_297.2.1, tw_297.2.2⟩
theorem t_RX3_293_298 : ThW RX3 293 298 297 "java/lang/ArithmeticException" "there are no questions" := ⟨rfl, by decide, by decide, (gwi 1201 (by decide +kernel) (by decide +kernel)), (gwi 32 (by decide +kernel) (by decide +kernel)), by decide, by decide, tw_297.1, tw_297.2.1, tw_297.2.2⟩
theorem t_RX3_313_315 : ThW RX3 313 315 317 "java/lang/IndexOutOfBoundsException" "no such question" := ⟨rfl, by decide, by decide, (gwi 566 (by decide +kernel) (by decide +kernel)), (gwi 24 (by decide +kernel) (by decide +kernel)), by decide, by decide, tw_317.1, tw_317.2.1, tw_317.2.2⟩
theorem t_RX3_313_318 : ThW RX3 313 318 317 "java/lang/IndexOutOfBoundsException" "no such plan" := ⟨rfl, by decide, by decide, (gwi 566 (by decide +kernel) (by decide +kernel)), (gwi 24 (by decide +kernel) (by decide +kernel)), by decide, by decide, tw_317.1, tw_317.2.1, tw_317.2.2⟩
theorem t_RX3_313_320 : ThW RX3 313 320 317 "java/lang/IndexOutOfBoundsException" "no such sheet" := ⟨rfl, by decide, by decide, (gwi 566 (by decide +kernel) (by decide +kernel)), (gwi 24 (by decide +kernel) (by decide +kernel)), by decide, by decide, tw_317.1, tw_317.2.1, tw_317.2.2⟩
theorem t_RX3_113_322 : ThN RX3 113 322 115 "no such question in the list" := ⟨rfl, (gwi 224 (by decide +kernel) (by decide +kernel)), (gwi 23 (by decide +kernel) (by decide +kernel)), by decide, tn_115.1, tn_115.2.1, tn_115.2.2⟩
