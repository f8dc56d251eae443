section
-- ===== PART A: goes FIRST, ahead of the names: the tables' words, and 'selects' of the private methods out of them =====
/-- a private method of a class that the tables say can be made, by its rows of tables_1 -/
def lw_okq (q : MethodName × Nat) : Prop := (q.1.cls ≠ "java/lang/invoke/MethodHandle" ∧ q.1.cls ≠ "java/lang/invoke/VarHandle") ∧ Cond.instantiable q.1.cls q.2 ∈ tables_1 ∧ Cond.privateMethod q.1 ∈ tables_1 ∧ Cond.instanceMethod q.1 ∈ tables_1
theorem lw_p0 : lw_okq (⟨"Quizspool", "areLevelsAsAnswered", "()Z"⟩, 13) := ⟨⟨by decide +kernel, by decide +kernel⟩, List.mem_of_getElem? (i := 34) (by decide +kernel), List.mem_of_getElem? (i := 190) (by decide +kernel), List.mem_of_getElem? (i := 191) (by decide +kernel)⟩
theorem lw_p1 : lw_okq (⟨"Quizspool", "isNoneHeldTwice", "()Z"⟩, 13) := ⟨⟨by decide +kernel, by decide +kernel⟩, List.mem_of_getElem? (i := 34) (by decide +kernel), List.mem_of_getElem? (i := 207) (by decide +kernel), List.mem_of_getElem? (i := 208) (by decide +kernel)⟩
theorem lw_p2 : lw_okq (⟨"Quizspool", "arePlansKept", "()Z"⟩, 13) := ⟨⟨by decide +kernel, by decide +kernel⟩, List.mem_of_getElem? (i := 34) (by decide +kernel), List.mem_of_getElem? (i := 215) (by decide +kernel), List.mem_of_getElem? (i := 216) (by decide +kernel)⟩
theorem lw_p3 : lw_okq (⟨"java/lang/Throwable", "fillInStackTrace", "(I)Ljava/lang/Throwable;"⟩, 6) := ⟨⟨by decide +kernel, by decide +kernel⟩, List.mem_of_getElem? (i := 268) (by decide +kernel), List.mem_of_getElem? (i := 266) (by decide +kernel), List.mem_of_getElem? (i := 267) (by decide +kernel)⟩
theorem lw_p4 : lw_okq (⟨"java/util/ArrayList", "add", "(Ljava/lang/Object;[Ljava/lang/Object;I)V"⟩, 3) := ⟨⟨by decide +kernel, by decide +kernel⟩, List.mem_of_getElem? (i := 42) (by decide +kernel), List.mem_of_getElem? (i := 437) (by decide +kernel), List.mem_of_getElem? (i := 438) (by decide +kernel)⟩
theorem lw_p5 : lw_okq (⟨"java/util/ArrayList", "grow", "()[Ljava/lang/Object;"⟩, 3) := ⟨⟨by decide +kernel, by decide +kernel⟩, List.mem_of_getElem? (i := 42) (by decide +kernel), List.mem_of_getElem? (i := 441) (by decide +kernel), List.mem_of_getElem? (i := 442) (by decide +kernel)⟩
theorem lw_p6 : lw_okq (⟨"java/util/ArrayList", "grow", "(I)[Ljava/lang/Object;"⟩, 3) := ⟨⟨by decide +kernel, by decide +kernel⟩, List.mem_of_getElem? (i := 42) (by decide +kernel), List.mem_of_getElem? (i := 445) (by decide +kernel), List.mem_of_getElem? (i := 446) (by decide +kernel)⟩
theorem lw_p7 : lw_okq (⟨"Quizspool", "settlePlans", "()V"⟩, 13) := ⟨⟨by decide +kernel, by decide +kernel⟩, List.mem_of_getElem? (i := 34) (by decide +kernel), List.mem_of_getElem? (i := 488) (by decide +kernel), List.mem_of_getElem? (i := 489) (by decide +kernel)⟩
theorem lw_p8 : lw_okq (⟨"Quizspool", "isOpen", "(LQuizspool$Plan;)Z"⟩, 13) := ⟨⟨by decide +kernel, by decide +kernel⟩, List.mem_of_getElem? (i := 34) (by decide +kernel), List.mem_of_getElem? (i := 492) (by decide +kernel), List.mem_of_getElem? (i := 493) (by decide +kernel)⟩
theorem lw_p9 : lw_okq (⟨"java/util/ArrayList", "fastRemove", "([Ljava/lang/Object;I)V"⟩, 3) := ⟨⟨by decide +kernel, by decide +kernel⟩, List.mem_of_getElem? (i := 42) (by decide +kernel), List.mem_of_getElem? (i := 503) (by decide +kernel), List.mem_of_getElem? (i := 504) (by decide +kernel)⟩
theorem lw_p10 : lw_okq (⟨"Quizspool", "fill", "(LQuizspool$Plan;)V"⟩, 13) := ⟨⟨by decide +kernel, by decide +kernel⟩, List.mem_of_getElem? (i := 34) (by decide +kernel), List.mem_of_getElem? (i := 515) (by decide +kernel), List.mem_of_getElem? (i := 516) (by decide +kernel)⟩
theorem lw_p11 : lw_okq (⟨"Quizspool", "isCandidate", "(LQuizspool$Question;CLjava/util/ArrayList;)Z"⟩, 13) := ⟨⟨by decide +kernel, by decide +kernel⟩, List.mem_of_getElem? (i := 34) (by decide +kernel), List.mem_of_getElem? (i := 524) (by decide +kernel), List.mem_of_getElem? (i := 525) (by decide +kernel)⟩
theorem lw_p12 : lw_okq (⟨"Quizspool", "isAvailable", "(LQuizspool$Question;)Z"⟩, 13) := ⟨⟨by decide +kernel, by decide +kernel⟩, List.mem_of_getElem? (i := 34) (by decide +kernel), List.mem_of_getElem? (i := 528) (by decide +kernel), List.mem_of_getElem? (i := 529) (by decide +kernel)⟩
theorem lw_p13 : lw_okq (⟨"Quizspool", "questionOf", "(I)LQuizspool$Question;"⟩, 13) := ⟨⟨by decide +kernel, by decide +kernel⟩, List.mem_of_getElem? (i := 34) (by decide +kernel), List.mem_of_getElem? (i := 563) (by decide +kernel), List.mem_of_getElem? (i := 564) (by decide +kernel)⟩
theorem lw_p14 : lw_okq (⟨"Quizspool", "joinFamilies", "(II)V"⟩, 13) := ⟨⟨by decide +kernel, by decide +kernel⟩, List.mem_of_getElem? (i := 34) (by decide +kernel), List.mem_of_getElem? (i := 581) (by decide +kernel), List.mem_of_getElem? (i := 582) (by decide +kernel)⟩
theorem lw_p15 : lw_okq (⟨"Quizspool", "countTwins", "(LQuizspool$Question;)I"⟩, 13) := ⟨⟨by decide +kernel, by decide +kernel⟩, List.mem_of_getElem? (i := 34) (by decide +kernel), List.mem_of_getElem? (i := 585) (by decide +kernel), List.mem_of_getElem? (i := 586) (by decide +kernel)⟩
def lw_privs_1 : List (MethodName × Nat) := [(⟨"Quizspool", "areLevelsAsAnswered", "()Z"⟩, 13), (⟨"Quizspool", "isNoneHeldTwice", "()Z"⟩, 13), (⟨"Quizspool", "arePlansKept", "()Z"⟩, 13), (⟨"java/lang/Throwable", "fillInStackTrace", "(I)Ljava/lang/Throwable;"⟩, 6), (⟨"java/util/ArrayList", "add", "(Ljava/lang/Object;[Ljava/lang/Object;I)V"⟩, 3), (⟨"java/util/ArrayList", "grow", "()[Ljava/lang/Object;"⟩, 3), (⟨"java/util/ArrayList", "grow", "(I)[Ljava/lang/Object;"⟩, 3), (⟨"Quizspool", "settlePlans", "()V"⟩, 13), (⟨"Quizspool", "isOpen", "(LQuizspool$Plan;)Z"⟩, 13), (⟨"java/util/ArrayList", "fastRemove", "([Ljava/lang/Object;I)V"⟩, 3), (⟨"Quizspool", "fill", "(LQuizspool$Plan;)V"⟩, 13), (⟨"Quizspool", "isCandidate", "(LQuizspool$Question;CLjava/util/ArrayList;)Z"⟩, 13), (⟨"Quizspool", "isAvailable", "(LQuizspool$Question;)Z"⟩, 13), (⟨"Quizspool", "questionOf", "(I)LQuizspool$Question;"⟩, 13), (⟨"Quizspool", "joinFamilies", "(II)V"⟩, 13), (⟨"Quizspool", "countTwins", "(LQuizspool$Question;)I"⟩, 13)]
theorem lw_r1 : ∀ q ∈ lw_privs_1, lw_okq q := List.forall_mem_cons.mpr ⟨lw_p0, List.forall_mem_cons.mpr ⟨lw_p1, List.forall_mem_cons.mpr ⟨lw_p2, List.forall_mem_cons.mpr ⟨lw_p3, List.forall_mem_cons.mpr ⟨lw_p4, List.forall_mem_cons.mpr ⟨lw_p5, List.forall_mem_cons.mpr ⟨lw_p6, List.forall_mem_cons.mpr ⟨lw_p7, List.forall_mem_cons.mpr ⟨lw_p8, List.forall_mem_cons.mpr ⟨lw_p9, List.forall_mem_cons.mpr ⟨lw_p10, List.forall_mem_cons.mpr ⟨lw_p11, List.forall_mem_cons.mpr ⟨lw_p12, List.forall_mem_cons.mpr ⟨lw_p13, List.forall_mem_cons.mpr ⟨lw_p14, List.forall_mem_cons.mpr ⟨lw_p15, fun _ h => absurd h List.not_mem_nil⟩⟩⟩⟩⟩⟩⟩⟩⟩⟩⟩⟩⟩⟩⟩⟩
theorem lw_p16 : lw_okq (⟨"Quizspool", "wordsOfRow", "()I"⟩, 13) := ⟨⟨by decide +kernel, by decide +kernel⟩, List.mem_of_getElem? (i := 34) (by decide +kernel), List.mem_of_getElem? (i := 632) (by decide +kernel), List.mem_of_getElem? (i := 633) (by decide +kernel)⟩
theorem lw_p17 : lw_okq (⟨"Quizspool", "placeAmongHits", "(I)I"⟩, 13) := ⟨⟨by decide +kernel, by decide +kernel⟩, List.mem_of_getElem? (i := 34) (by decide +kernel), List.mem_of_getElem? (i := 640) (by decide +kernel), List.mem_of_getElem? (i := 641) (by decide +kernel)⟩
theorem lw_p18 : lw_okq (⟨"java/util/ArrayList", "rangeCheckForAdd", "(I)V"⟩, 3) := ⟨⟨by decide +kernel, by decide +kernel⟩, List.mem_of_getElem? (i := 42) (by decide +kernel), List.mem_of_getElem? (i := 648) (by decide +kernel), List.mem_of_getElem? (i := 649) (by decide +kernel)⟩
theorem lw_p19 : lw_okq (⟨"java/util/ArrayList", "outOfBoundsMsg", "(I)Ljava/lang/String;"⟩, 3) := ⟨⟨by decide +kernel, by decide +kernel⟩, List.mem_of_getElem? (i := 42) (by decide +kernel), List.mem_of_getElem? (i := 653) (by decide +kernel), List.mem_of_getElem? (i := 654) (by decide +kernel)⟩
theorem lw_p20 : lw_okq (⟨"Quizspool", "hitOf", "(I)LQuizspool$Question;"⟩, 13) := ⟨⟨by decide +kernel, by decide +kernel⟩, List.mem_of_getElem? (i := 34) (by decide +kernel), List.mem_of_getElem? (i := 860) (by decide +kernel), List.mem_of_getElem? (i := 861) (by decide +kernel)⟩
theorem lw_p21 : lw_okq (⟨"Quizspool", "planOf", "(I)LQuizspool$Plan;"⟩, 13) := ⟨⟨by decide +kernel, by decide +kernel⟩, List.mem_of_getElem? (i := 34) (by decide +kernel), List.mem_of_getElem? (i := 923) (by decide +kernel), List.mem_of_getElem? (i := 924) (by decide +kernel)⟩
theorem lw_p22 : lw_okq (⟨"Quizspool", "drawQuestions", "(IIII)Z"⟩, 13) := ⟨⟨by decide +kernel, by decide +kernel⟩, List.mem_of_getElem? (i := 34) (by decide +kernel), List.mem_of_getElem? (i := 969) (by decide +kernel), List.mem_of_getElem? (i := 970) (by decide +kernel)⟩
theorem lw_p23 : lw_okq (⟨"Quizspool", "gatherCandidates", "(C)V"⟩, 13) := ⟨⟨by decide +kernel, by decide +kernel⟩, List.mem_of_getElem? (i := 34) (by decide +kernel), List.mem_of_getElem? (i := 973) (by decide +kernel), List.mem_of_getElem? (i := 974) (by decide +kernel)⟩
theorem lw_p24 : lw_okq (⟨"Quizspool", "spool", "(LQuizspool$Sheet;)I"⟩, 13) := ⟨⟨by decide +kernel, by decide +kernel⟩, List.mem_of_getElem? (i := 34) (by decide +kernel), List.mem_of_getElem? (i := 1005) (by decide +kernel), List.mem_of_getElem? (i := 1006) (by decide +kernel)⟩
theorem lw_p25 : lw_okq (⟨"Quizspool", "sheetOf", "(I)LQuizspool$Sheet;"⟩, 13) := ⟨⟨by decide +kernel, by decide +kernel⟩, List.mem_of_getElem? (i := 34) (by decide +kernel), List.mem_of_getElem? (i := 1028) (by decide +kernel), List.mem_of_getElem? (i := 1029) (by decide +kernel)⟩
theorem lw_p26 : lw_okq (⟨"Quizspool", "firstWaiting", "()I"⟩, 13) := ⟨⟨by decide +kernel, by decide +kernel⟩, List.mem_of_getElem? (i := 34) (by decide +kernel), List.mem_of_getElem? (i := 1055) (by decide +kernel), List.mem_of_getElem? (i := 1056) (by decide +kernel)⟩
theorem lw_p27 : lw_okq (⟨"Quizspool", "writeText", "(ILQuizspool$Sheet;)V"⟩, 13) := ⟨⟨by decide +kernel, by decide +kernel⟩, List.mem_of_getElem? (i := 34) (by decide +kernel), List.mem_of_getElem? (i := 1092) (by decide +kernel), List.mem_of_getElem? (i := 1093) (by decide +kernel)⟩
theorem lw_p28 : lw_okq (⟨"QuizspoolModel", "settle", "()V"⟩, 31) := ⟨⟨by decide +kernel, by decide +kernel⟩, List.mem_of_getElem? (i := 1214) (by decide +kernel), List.mem_of_getElem? (i := 1334) (by decide +kernel), List.mem_of_getElem? (i := 1335) (by decide +kernel)⟩
theorem lw_p29 : lw_okq (⟨"QuizspoolModel", "isInForce", "(I)Z"⟩, 31) := ⟨⟨by decide +kernel, by decide +kernel⟩, List.mem_of_getElem? (i := 1214) (by decide +kernel), List.mem_of_getElem? (i := 1338) (by decide +kernel), List.mem_of_getElem? (i := 1339) (by decide +kernel)⟩
theorem lw_p30 : lw_okq (⟨"QuizspoolModel", "kindOf", "(I)C"⟩, 31) := ⟨⟨by decide +kernel, by decide +kernel⟩, List.mem_of_getElem? (i := 1214) (by decide +kernel), List.mem_of_getElem? (i := 1342) (by decide +kernel), List.mem_of_getElem? (i := 1343) (by decide +kernel)⟩
theorem lw_p31 : lw_okq (⟨"QuizspoolModel", "hasTwinIn", "(III)Z"⟩, 31) := ⟨⟨by decide +kernel, by decide +kernel⟩, List.mem_of_getElem? (i := 1214) (by decide +kernel), List.mem_of_getElem? (i := 1346) (by decide +kernel), List.mem_of_getElem? (i := 1347) (by decide +kernel)⟩
def lw_privs_2 : List (MethodName × Nat) := [(⟨"Quizspool", "wordsOfRow", "()I"⟩, 13), (⟨"Quizspool", "placeAmongHits", "(I)I"⟩, 13), (⟨"java/util/ArrayList", "rangeCheckForAdd", "(I)V"⟩, 3), (⟨"java/util/ArrayList", "outOfBoundsMsg", "(I)Ljava/lang/String;"⟩, 3), (⟨"Quizspool", "hitOf", "(I)LQuizspool$Question;"⟩, 13), (⟨"Quizspool", "planOf", "(I)LQuizspool$Plan;"⟩, 13), (⟨"Quizspool", "drawQuestions", "(IIII)Z"⟩, 13), (⟨"Quizspool", "gatherCandidates", "(C)V"⟩, 13), (⟨"Quizspool", "spool", "(LQuizspool$Sheet;)I"⟩, 13), (⟨"Quizspool", "sheetOf", "(I)LQuizspool$Sheet;"⟩, 13), (⟨"Quizspool", "firstWaiting", "()I"⟩, 13), (⟨"Quizspool", "writeText", "(ILQuizspool$Sheet;)V"⟩, 13), (⟨"QuizspoolModel", "settle", "()V"⟩, 31), (⟨"QuizspoolModel", "isInForce", "(I)Z"⟩, 31), (⟨"QuizspoolModel", "kindOf", "(I)C"⟩, 31), (⟨"QuizspoolModel", "hasTwinIn", "(III)Z"⟩, 31)]
theorem lw_r2 : ∀ q ∈ lw_privs_2, lw_okq q := List.forall_mem_cons.mpr ⟨lw_p16, List.forall_mem_cons.mpr ⟨lw_p17, List.forall_mem_cons.mpr ⟨lw_p18, List.forall_mem_cons.mpr ⟨lw_p19, List.forall_mem_cons.mpr ⟨lw_p20, List.forall_mem_cons.mpr ⟨lw_p21, List.forall_mem_cons.mpr ⟨lw_p22, List.forall_mem_cons.mpr ⟨lw_p23, List.forall_mem_cons.mpr ⟨lw_p24, List.forall_mem_cons.mpr ⟨lw_p25, List.forall_mem_cons.mpr ⟨lw_p26, List.forall_mem_cons.mpr ⟨lw_p27, List.forall_mem_cons.mpr ⟨lw_p28, List.forall_mem_cons.mpr ⟨lw_p29, List.forall_mem_cons.mpr ⟨lw_p30, List.forall_mem_cons.mpr ⟨lw_p31, fun _ h => absurd h List.not_mem_nil⟩⟩⟩⟩⟩⟩⟩⟩⟩⟩⟩⟩⟩⟩⟩⟩
theorem lw_p32 : lw_okq (⟨"QuizspoolModel", "areTwin", "(II)Z"⟩, 31) := ⟨⟨by decide +kernel, by decide +kernel⟩, List.mem_of_getElem? (i := 1214) (by decide +kernel), List.mem_of_getElem? (i := 1350) (by decide +kernel), List.mem_of_getElem? (i := 1351) (by decide +kernel)⟩
theorem lw_p33 : lw_okq (⟨"QuizspoolModel", "isFreeNow", "(I)Z"⟩, 31) := ⟨⟨by decide +kernel, by decide +kernel⟩, List.mem_of_getElem? (i := 1214) (by decide +kernel), List.mem_of_getElem? (i := 1354) (by decide +kernel), List.mem_of_getElem? (i := 1355) (by decide +kernel)⟩
theorem lw_p34 : lw_okq (⟨"QuizspoolModel", "isHeld", "(I)Z"⟩, 31) := ⟨⟨by decide +kernel, by decide +kernel⟩, List.mem_of_getElem? (i := 1214) (by decide +kernel), List.mem_of_getElem? (i := 1358) (by decide +kernel), List.mem_of_getElem? (i := 1359) (by decide +kernel)⟩
theorem lw_p35 : lw_okq (⟨"QuizspoolModel", "heldBy", "(I)I"⟩, 31) := ⟨⟨by decide +kernel, by decide +kernel⟩, List.mem_of_getElem? (i := 1214) (by decide +kernel), List.mem_of_getElem? (i := 1362) (by decide +kernel), List.mem_of_getElem? (i := 1363) (by decide +kernel)⟩
theorem lw_p36 : lw_okq (⟨"QuizspoolModel", "hasOn", "(II)Z"⟩, 31) := ⟨⟨by decide +kernel, by decide +kernel⟩, List.mem_of_getElem? (i := 1214) (by decide +kernel), List.mem_of_getElem? (i := 1366) (by decide +kernel), List.mem_of_getElem? (i := 1367) (by decide +kernel)⟩
theorem lw_p37 : lw_okq (⟨"QuizspoolModel", "isQuestion", "(I)Z"⟩, 31) := ⟨⟨by decide +kernel, by decide +kernel⟩, List.mem_of_getElem? (i := 1214) (by decide +kernel), List.mem_of_getElem? (i := 1374) (by decide +kernel), List.mem_of_getElem? (i := 1375) (by decide +kernel)⟩
theorem lw_p38 : lw_okq (⟨"QuizspoolModel", "wrongQuestion", "(I)I"⟩, 31) := ⟨⟨by decide +kernel, by decide +kernel⟩, List.mem_of_getElem? (i := 1214) (by decide +kernel), List.mem_of_getElem? (i := 1386) (by decide +kernel), List.mem_of_getElem? (i := 1387) (by decide +kernel)⟩
theorem lw_p39 : lw_okq (⟨"QuizspoolModel", "rankOf", "(I)I"⟩, 31) := ⟨⟨by decide +kernel, by decide +kernel⟩, List.mem_of_getElem? (i := 1214) (by decide +kernel), List.mem_of_getElem? (i := 1406) (by decide +kernel), List.mem_of_getElem? (i := 1407) (by decide +kernel)⟩
theorem lw_p40 : lw_okq (⟨"QuizspoolModel", "isTyped", "(I)Z"⟩, 31) := ⟨⟨by decide +kernel, by decide +kernel⟩, List.mem_of_getElem? (i := 1214) (by decide +kernel), List.mem_of_getElem? (i := 1410) (by decide +kernel), List.mem_of_getElem? (i := 1411) (by decide +kernel)⟩
theorem lw_p41 : lw_okq (⟨"QuizspoolModel", "hasAhead", "(II)Z"⟩, 31) := ⟨⟨by decide +kernel, by decide +kernel⟩, List.mem_of_getElem? (i := 1214) (by decide +kernel), List.mem_of_getElem? (i := 1414) (by decide +kernel), List.mem_of_getElem? (i := 1415) (by decide +kernel)⟩
theorem lw_p42 : lw_okq (⟨"QuizspoolModel", "plain", "(I)I"⟩, 31) := ⟨⟨by decide +kernel, by decide +kernel⟩, List.mem_of_getElem? (i := 1214) (by decide +kernel), List.mem_of_getElem? (i := 1430) (by decide +kernel), List.mem_of_getElem? (i := 1431) (by decide +kernel)⟩
theorem lw_p43 : lw_okq (⟨"QuizspoolModel", "isPlan", "(I)Z"⟩, 31) := ⟨⟨by decide +kernel, by decide +kernel⟩, List.mem_of_getElem? (i := 1214) (by decide +kernel), List.mem_of_getElem? (i := 1449) (by decide +kernel), List.mem_of_getElem? (i := 1450) (by decide +kernel)⟩
theorem lw_p44 : lw_okq (⟨"QuizspoolModel", "wrongPlan", "(I)I"⟩, 31) := ⟨⟨by decide +kernel, by decide +kernel⟩, List.mem_of_getElem? (i := 1214) (by decide +kernel), List.mem_of_getElem? (i := 1457) (by decide +kernel), List.mem_of_getElem? (i := 1458) (by decide +kernel)⟩
theorem lw_p45 : lw_okq (⟨"QuizspoolModel", "canDraw", "(IIII)Z"⟩, 31) := ⟨⟨by decide +kernel, by decide +kernel⟩, List.mem_of_getElem? (i := 1214) (by decide +kernel), List.mem_of_getElem? (i := 1477) (by decide +kernel), List.mem_of_getElem? (i := 1478) (by decide +kernel)⟩
theorem lw_p46 : lw_okq (⟨"QuizspoolModel", "isTrial", "(ICI)Z"⟩, 31) := ⟨⟨by decide +kernel, by decide +kernel⟩, List.mem_of_getElem? (i := 1214) (by decide +kernel), List.mem_of_getElem? (i := 1481) (by decide +kernel), List.mem_of_getElem? (i := 1482) (by decide +kernel)⟩
theorem lw_p47 : lw_okq (⟨"QuizspoolModel", "candidate", "(ICI)I"⟩, 31) := ⟨⟨by decide +kernel, by decide +kernel⟩, List.mem_of_getElem? (i := 1214) (by decide +kernel), List.mem_of_getElem? (i := 1485) (by decide +kernel), List.mem_of_getElem? (i := 1486) (by decide +kernel)⟩
def lw_privs_3 : List (MethodName × Nat) := [(⟨"QuizspoolModel", "areTwin", "(II)Z"⟩, 31), (⟨"QuizspoolModel", "isFreeNow", "(I)Z"⟩, 31), (⟨"QuizspoolModel", "isHeld", "(I)Z"⟩, 31), (⟨"QuizspoolModel", "heldBy", "(I)I"⟩, 31), (⟨"QuizspoolModel", "hasOn", "(II)Z"⟩, 31), (⟨"QuizspoolModel", "isQuestion", "(I)Z"⟩, 31), (⟨"QuizspoolModel", "wrongQuestion", "(I)I"⟩, 31), (⟨"QuizspoolModel", "rankOf", "(I)I"⟩, 31), (⟨"QuizspoolModel", "isTyped", "(I)Z"⟩, 31), (⟨"QuizspoolModel", "hasAhead", "(II)Z"⟩, 31), (⟨"QuizspoolModel", "plain", "(I)I"⟩, 31), (⟨"QuizspoolModel", "isPlan", "(I)Z"⟩, 31), (⟨"QuizspoolModel", "wrongPlan", "(I)I"⟩, 31), (⟨"QuizspoolModel", "canDraw", "(IIII)Z"⟩, 31), (⟨"QuizspoolModel", "isTrial", "(ICI)Z"⟩, 31), (⟨"QuizspoolModel", "candidate", "(ICI)I"⟩, 31)]
theorem lw_r3 : ∀ q ∈ lw_privs_3, lw_okq q := List.forall_mem_cons.mpr ⟨lw_p32, List.forall_mem_cons.mpr ⟨lw_p33, List.forall_mem_cons.mpr ⟨lw_p34, List.forall_mem_cons.mpr ⟨lw_p35, List.forall_mem_cons.mpr ⟨lw_p36, List.forall_mem_cons.mpr ⟨lw_p37, List.forall_mem_cons.mpr ⟨lw_p38, List.forall_mem_cons.mpr ⟨lw_p39, List.forall_mem_cons.mpr ⟨lw_p40, List.forall_mem_cons.mpr ⟨lw_p41, List.forall_mem_cons.mpr ⟨lw_p42, List.forall_mem_cons.mpr ⟨lw_p43, List.forall_mem_cons.mpr ⟨lw_p44, List.forall_mem_cons.mpr ⟨lw_p45, List.forall_mem_cons.mpr ⟨lw_p46, List.forall_mem_cons.mpr ⟨lw_p47, fun _ h => absurd h List.not_mem_nil⟩⟩⟩⟩⟩⟩⟩⟩⟩⟩⟩⟩⟩⟩⟩⟩
theorem lw_p48 : lw_okq (⟨"QuizspoolModel", "isCandidate", "(ICI)Z"⟩, 31) := ⟨⟨by decide +kernel, by decide +kernel⟩, List.mem_of_getElem? (i := 1214) (by decide +kernel), List.mem_of_getElem? (i := 1489) (by decide +kernel), List.mem_of_getElem? (i := 1490) (by decide +kernel)⟩
theorem lw_p49 : lw_okq (⟨"QuizspoolModel", "made", "(I)V"⟩, 31) := ⟨⟨by decide +kernel, by decide +kernel⟩, List.mem_of_getElem? (i := 1214) (by decide +kernel), List.mem_of_getElem? (i := 1493) (by decide +kernel), List.mem_of_getElem? (i := 1494) (by decide +kernel)⟩
theorem lw_p50 : lw_okq (⟨"QuizspoolModel", "wrongSheet", "(I)I"⟩, 31) := ⟨⟨by decide +kernel, by decide +kernel⟩, List.mem_of_getElem? (i := 1214) (by decide +kernel), List.mem_of_getElem? (i := 1505) (by decide +kernel), List.mem_of_getElem? (i := 1506) (by decide +kernel)⟩
theorem lw_p51 : lw_okq (⟨"QuizspoolModel", "isSheet", "(I)Z"⟩, 31) := ⟨⟨by decide +kernel, by decide +kernel⟩, List.mem_of_getElem? (i := 1214) (by decide +kernel), List.mem_of_getElem? (i := 1509) (by decide +kernel), List.mem_of_getElem? (i := 1510) (by decide +kernel)⟩
theorem lw_p52 : lw_okq (⟨"QuizspoolModel", "putNumber", "(I)V"⟩, 31) := ⟨⟨by decide +kernel, by decide +kernel⟩, List.mem_of_getElem? (i := 1214) (by decide +kernel), List.mem_of_getElem? (i := 1545) (by decide +kernel), List.mem_of_getElem? (i := 1546) (by decide +kernel)⟩
theorem lw_p53 : lw_okq (⟨"QuizspoolModel", "put", "(C)V"⟩, 31) := ⟨⟨by decide +kernel, by decide +kernel⟩, List.mem_of_getElem? (i := 1214) (by decide +kernel), List.mem_of_getElem? (i := 1549) (by decide +kernel), List.mem_of_getElem? (i := 1550) (by decide +kernel)⟩
def lw_privs_4 : List (MethodName × Nat) := [(⟨"QuizspoolModel", "isCandidate", "(ICI)Z"⟩, 31), (⟨"QuizspoolModel", "made", "(I)V"⟩, 31), (⟨"QuizspoolModel", "wrongSheet", "(I)I"⟩, 31), (⟨"QuizspoolModel", "isSheet", "(I)Z"⟩, 31), (⟨"QuizspoolModel", "putNumber", "(I)V"⟩, 31), (⟨"QuizspoolModel", "put", "(C)V"⟩, 31)]
theorem lw_r4 : ∀ q ∈ lw_privs_4, lw_okq q := List.forall_mem_cons.mpr ⟨lw_p48, List.forall_mem_cons.mpr ⟨lw_p49, List.forall_mem_cons.mpr ⟨lw_p50, List.forall_mem_cons.mpr ⟨lw_p51, List.forall_mem_cons.mpr ⟨lw_p52, List.forall_mem_cons.mpr ⟨lw_p53, fun _ h => absurd h List.not_mem_nil⟩⟩⟩⟩⟩⟩
def lw_privs : List (MethodName × Nat) := lw_privs_1 ++ (lw_privs_2 ++ (lw_privs_3 ++ (lw_privs_4)))
def lw_tbl : List Cond := k2_sels lw_privs ++ tables_1
theorem lw_privs_ok : ∀ q ∈ lw_privs, lw_okq q := by
  show ∀ q ∈ lw_privs_1 ++ (lw_privs_2 ++ (lw_privs_3 ++ (lw_privs_4))), lw_okq q
  exact List.forall_mem_append.mpr ⟨lw_r1, List.forall_mem_append.mpr ⟨lw_r2, List.forall_mem_append.mpr ⟨lw_r3, lw_r4⟩⟩⟩
/-- the streams that the claim lets the run draw from -/
abbrev lw_cs : List Choice := [Jvm.Choice.named "NaN.bits"]
theorem lw_bits : nanBits ∈ lw_cs := by first | decide | exact List.mem_cons_self | simp [lw_cs, nanBits]
end
section
/-! ===== BEGIN words of one list among another's, by their places ===== -/
theorem goodIn_r {big : List Cond} (ws : List Cond) (ps : List Nat) (hp : ws = ps.filterMap (fun i => big[i]?)) (h : ws.all goodWord = true) : GoodIn big ws := by
  intro w hw
  have h1 := List.all_eq_true.mp h w hw
  rw [hp] at hw
  obtain ⟨i, -, hi⟩ := List.mem_filterMap.mp hw
  have hm : w ∈ big := by first | exact List.mem_of_getElem? hi | exact List.getElem?_mem hi
  exact ⟨hm, good_of_word h1⟩
theorem goodIn_app {big a b : List Cond} (ha : GoodIn big a) (hb : GoodIn big b) : GoodIn big (a ++ b) := fun w h => (List.mem_append.mp h).elim (ha w) (hb w)
theorem goodIn_ca {big a b : List Cond} {c : Cond} (ha : GoodIn big (c :: a)) (hb : GoodIn big b) : GoodIn big (c :: (a ++ b)) := fun w h => (List.mem_cons.mp h).elim (fun e => ha w (List.mem_cons.mpr (Or.inl e))) (fun h => (List.mem_append.mp h).elim (fun h => ha w (List.mem_cons.mpr (Or.inr h))) (hb w))
theorem goodIn_sub {big ws : List Cond} (hm : ∀ w ∈ ws, w ∈ big) (h : ws.all goodWord = true) : GoodIn big ws := fun w hw => ⟨hm w hw, good_of_word (List.all_eq_true.mp h w hw)⟩
/-! ===== END ===== -/

/-! ===== BEGIN exceptions that leave a method, and their catching by the caller (launches without stack traces) ===== -/
section VXA
/-! The laws vx_back, vx_callV, vx_callS, vx_callSW, vx_throw0, vx_throwS follow proofs of the library, with one case more: JvmDerived/Free/Laws.lean (Back.of_free), Shelf42/LK1.lean (callV, callS), Shelf/KitTraced.lean (throwNew0V, throwNewS). -/
/-- where a method has thrown q: the class by its name, the cell, what was written, the world -/
def vx_T (XC : String → State → State → Prop) (st : State) (q : Addr) (t : State) (mc ms : Nat) (free : Addr → Prop) : Prop :=
  ∃ (E : String) (ce : Cell) (L : List Loc), XC E st t ∧ t.heap[q]? = some ce ∧ ce.vm = .none ∧ st.vm.findClass E = some ce.cls ∧ st.WarmedH t.vm ∧ st.sameButNew ({ t with vm := st.vm } : State) L mc ms ∧ ∀ z ∈ L, free z.base
def vx_Q (Qc : Array Value → State → Outcome → State → Prop) (XC : String → State → State → Prop) (mc ms : Nat) (free : Addr → Prop) : Array Value → State → Outcome → State → Prop := fun a st o t =>
  (Qc a st o t ∧ ∃ L, FrameEnd st o t L mc ms ∧ ∀ q ∈ L, free q.base) ∨ ∃ q, o = .threw q ∧ vx_T XC st q t mc ms free
/-- a callee that returns or throws -/
def vx_Met (l : Launch) (y : MethodName) (ws : List Cond) (rm : Room) (Pc : Array Value → State → Prop) (Qc : Array Value → State → Outcome → State → Prop) (XC : String → State → State → Prop) (mc ms : Nat) (free : Addr → Prop) : Prop :=
  MetFree l y (headSpec ws rm) Pc (fun _ _ _ _ _ => True) (vx_Q Qc XC mc ms free)
def vx_Post (XC : String → State → State → Prop) (mc ms : Nat) (free : Addr → Prop) : Pt → Array Value → Addr → Pt → Prop := fun A a q B =>
  ∃ (g : JFrame) (mk : MethodId) (t : State) (L : List Loc) (E : String) (ce : Cell), B.U.heap = t.heap ∧ B.U.vm = t.vm ∧ XC E (A.U.calling g mk a) t ∧ t.heap[q]? = some ce ∧ ce.vm = .none ∧ A.U.vm.findClass E = some ce.cls ∧ B.locs = A.locs ++ L ∧ (∀ z ∈ L, free z.base) ∧ B.cells = A.cells + mc ∧ B.slots = A.slots + ms
def vx_Back (l : Launch) (R : Room) (p : Program) (e : Env) (below : List Frame) (s : State) (sargs : Array Value) (y : MethodName) (len W9 : Nat)
    (Pre : Pt → Array Value → Prop) (Post : Pt → Array Value → Option Value → Pt → Prop) (PostX : Pt → Array Value → Addr → Pt → Prop) : Prop :=
  ∀ (m : MethodId) (meth : Method) (c : Code) (A : Pt) (g : JFrame) (ig : Instr) (mk : MethodId) (a : Array Value),
    Stand p l e R s m sargs below meth c A.U A.locs A.cells A.slots → g.method = m → g.locals.size = c.maxLocals → decode c.code g.pc = .ok (ig, len) →
    2 * g.monitorRoom + (g.stack.map fun v => v.category).sum ≤ W9 → A.U.methodNamed? y = some mk → Pre A a →
    (∃ (v : Option Value) (B : Pt), Stand p l e R s m sargs below meth c B.U B.locs B.cells B.slots ∧ Post A a v B ∧
      Steps p.tables e below (doInvoke e (A.U.setTop g) [] mk a).1 (B.U.setTop { g with pc := g.pc + len, stack := v.toList ++ g.stack })) ∨
    (∃ (q : Addr) (B : Pt), Stand p l e R s m sargs below meth c B.U B.locs B.cells B.slots ∧ PostX A a q B ∧
      Steps p.tables e below (doInvoke e (A.U.setTop g) [] mk a).1 ((B.U.setTop g).pushFrame (.throwing q)))
section Payer
variable {l : Launch} {R : Room} {p : Program} {e : Env} {below : List Frame} {s : State} {sargs : Array Value} {y : MethodName} {len W9 : Nat}
theorem vx_back {ws : List Cond} {rm : Room} {Pc : Array Value → State → Prop} {Qc : Array Value → State → Outcome → State → Prop} {XC : String → State → State → Prop} {mc ms : Nat} {free : Addr → Prop} {bytes : ByteArray} {maxL : Nat} {ret : Option FieldType}
    (hM : vx_Met l y ws rm Pc Qc XC mc ms free) (hblind : FrameBlind Pc) (hrc : rm.cells = mc) (hrs : rm.slots = ms)
    (hframes : rm.frames + 1 ≤ R.frames) (hlocals : W9 + (maxL + 11) + rm.locals ≤ R.locals)
    (hws : ∀ w ∈ ws, ∀ a' U, s.WarmedH U.vm → w.before a' U = true) (hcode : Cond.code y bytes maxL ret ∈ ws) (hinit : ∀ a' U, s.WarmedH U.vm → (Cond.initialized y.cls).before a' U = true) :
    vx_Back l R p e below s sargs y len W9 (PreOf R mc ms Pc) (PostOf Qc mc ms free) (vx_Post XC mc ms free) := by
  intro m meth c A g ig mk a X hg hsize hdg hW hn hp
  have h1 : (headSpec ws rm).pre.before a A.U = true := atoms_intro fun w hw => hws w hw _ _ X.warmed
  have h2 : (Cond.code y bytes maxL ret).before a A.U = true := hws _ hcode _ _ X.warmed
  have h3 : (Cond.initialized y.cls).before a A.U = true := hinit _ _ X.warmed
  have h4 : A.cells + (headSpec ws rm).room.cells ≤ R.cells := by rw [show (headSpec ws rm).room.cells = mc from hrc]; exact hp.1
  have h5 : A.slots + (headSpec ws rm).room.slots ≤ R.slots := by rw [show (headSpec ws rm).room.slots = ms from hrs]; exact hp.2.1
  have hPc : Pc a (A.U.calling g mk a) := hblind _ _ _ _ hp.2.2
  obtain ⟨U, Ls, c0, s0⟩ := A
  dsimp only [Pt.U, Pt.locs, Pt.cells, Pt.slots] at h1 h2 h3 h4 h5 X hn hPc ⊢
  obtain ⟨methY, cY, hmY, hcY, -, hlY, -, -, -, -⟩ := Cond.code_spec hn h2
  obtain ⟨kY, hkY, -⟩ := className_of_methodNamed hn
  have hinitY : kY.init = .initialized := Cond.initialized_spec (findClass_of_methodNamed hn) hkY h3
  have h : At U g.method c below := by rw [hg]; exact X.here
  have hlocals9 : W9 + (maxL + 11) + (headSpec ws rm).room.locals ≤ R.locals := hlocals
  have happ : (headSpec ws rm).appliesLoose y e.platform (U.calling g mk a) = true :=
    Spec.appliesLoose_calling (g := g) h hdg hn hkY hinitY
      (X.room_calling (g := g) (R' := (headSpec ws rm).room) hsize hmY hcY hframes (by rw [hlY]; omega) h4 h5) h1
  obtain ⟨mid, hmid⟩ := h.above
  have hfr : (U.setTop g).frames = (.java g :: mid) ++ below := by rw [State.frames_setTop' g h.top, hmid]; rfl
  obtain ⟨o, s₂, hsteps, -, hend, hq⟩ := Steps.callFree hM p X.admits X.cas X.clock (acts := []) hfr happ hPc trivial
  have hq' : vx_Q Qc XC mc ms free a (U.calling g mk a) o s₂ := hq
  rw [State.frames_setTop' g h.top] at hend
  obtain ⟨g₀, hg0⟩ := Option.isSome_iff_exists.mp h.top
  obtain ⟨r, hr⟩ := State.topJava?_eq_some.mp hg0
  have hr' : (({ U with heap := s₂.heap, slotsUsed := s₂.slotsUsed } : State).setVm s₂.vm).frames = .java g₀ :: r := hr
  rcases hq' with ⟨hqc, L, hfe, hL⟩ | ⟨q, rfl, E, ce, L, hx, hce, hcv, hcl, hW₂, hsm, hL⟩
  · obtain ⟨⟨v, rfl⟩, hW₂, e2, q2, q3, q4, q5, q6⟩ := id hfe
    have e3 : s₂ = ({ (U.calling g mk a).setFrames s₂.frames with heap := s₂.heap, slotsUsed := s₂.slotsUsed } : State).setVm s₂.vm := by
      have : s₂ = ({ s₂ with vm := (U.calling g mk a).vm } : State).setVm s₂.vm := rfl
      rw [e2] at this
      exact this
    obtain ⟨c₂, i₂, len₂, hc₂, hd₂, hf₂⟩ := hend
    have hW' : U.WarmedH s₂.vm := hW₂
    have hcc : c₂ = c := by
      have h1 : s₂.code? g.method = U.code? g.method := by
        rw [State.code?_eq, State.code?_eq, hW'.alike.method?]
      exact Option.some.inj (hc₂.symm.trans (h1.trans h.code))
    subst hcc
    have hlen : len₂ = len := by rw [hdg] at hd₂; cases hd₂; rfl
    subst hlen
    have hs₂ : s₂ = (({ U with heap := s₂.heap, slotsUsed := s₂.slotsUsed } : State).setVm s₂.vm).setTop { g with pc := g.pc + len₂, stack := v.toList ++ g.stack } := by
      refine e3.trans ?_
      rw [hf₂, State.calling_eq h.top, State.setFrames_setFrames, State.setTop_of_frames _ hr', hr]
      rfl
    have hsame : U.sameButNew ({ U with heap := s₂.heap, slotsUsed := s₂.slotsUsed } : State) L mc ms := by
      refine ⟨?_, q2, q3, q4, q5, q6⟩
      obtain ⟨t, ht, -⟩ := State.frames_cons hr
      show ({ U with heap := s₂.heap, slotsUsed := s₂.slotsUsed } : State) = { U.setFrames U.frames with heap := s₂.heap, slotsUsed := s₂.slotsUsed }
      rw [State.setFrames_self ht]
    subst hg
    refine Or.inl ⟨v, ⟨(({ U with heap := s₂.heap, slotsUsed := s₂.slotsUsed } : State).setVm s₂.vm), Ls ++ L, c0 + mc, s0 + ms⟩,
      ⟨X.admits, X.cas, X.clock, X.frames, X.room, X.hears, X.method, X.code, (X.here.setHeapUsed s₂.heap s₂.slotsUsed).setVm hW'.alike, X.tail, State.WarmedH.trans X.warmed hW', X.limits, X.bytes, X.same.trans (hsame.setVm s.vm)⟩,
      ⟨g, mk, s₂, L, rfl, rfl, hqc, rfl, hL, rfl, rfl⟩, ?_⟩
    show Steps p.tables e below _ ((({ U with heap := s₂.heap, slotsUsed := s₂.slotsUsed } : State).setVm s₂.vm).setTop { g with pc := g.pc + len₂, stack := v.toList ++ g.stack })
    rw [← hs₂]
    exact hsteps
  · obtain ⟨e2, q2, q3, q4, q5, q6⟩ := id hsm
    have e3 : s₂ = ({ (U.calling g mk a).setFrames s₂.frames with heap := s₂.heap, slotsUsed := s₂.slotsUsed } : State).setVm s₂.vm := by
      have : s₂ = ({ s₂ with vm := (U.calling g mk a).vm } : State).setVm s₂.vm := rfl
      rw [e2] at this
      exact this
    have hf₂ : s₂.frames = .throwing q :: .java g :: U.frames.tail := hend
    have hW' : U.WarmedH s₂.vm := hW₂
    have hs₂ : s₂ = ((({ U with heap := s₂.heap, slotsUsed := s₂.slotsUsed } : State).setVm s₂.vm).setTop g).pushFrame (.throwing q) := by
      refine e3.trans ?_
      rw [hf₂, State.calling_eq h.top, State.setFrames_setFrames, State.pushFrame, State.frames_setTop _ hr', State.setTop_of_frames _ hr', State.setFrames_setFrames, hr]
      rfl
    have hsame : U.sameButNew ({ U with heap := s₂.heap, slotsUsed := s₂.slotsUsed } : State) L mc ms := by
      refine ⟨?_, q2, q3, q4, q5, q6⟩
      obtain ⟨t, ht, -⟩ := State.frames_cons hr
      show ({ U with heap := s₂.heap, slotsUsed := s₂.slotsUsed } : State) = { U.setFrames U.frames with heap := s₂.heap, slotsUsed := s₂.slotsUsed }
      rw [State.setFrames_self ht]
    subst hg
    refine Or.inr ⟨q, ⟨(({ U with heap := s₂.heap, slotsUsed := s₂.slotsUsed } : State).setVm s₂.vm), Ls ++ L, c0 + mc, s0 + ms⟩,
      ⟨X.admits, X.cas, X.clock, X.frames, X.room, X.hears, X.method, X.code, (X.here.setHeapUsed s₂.heap s₂.slotsUsed).setVm hW'.alike, X.tail, State.WarmedH.trans X.warmed hW', X.limits, X.bytes, X.same.trans (hsame.setVm s.vm)⟩,
      ⟨g, mk, s₂, L, E, ce, rfl, rfl, hx, hce, hcv, hcl, rfl, hL, rfl, rfl⟩, ?_⟩
    show Steps p.tables e below _ (((({ U with heap := s₂.heap, slotsUsed := s₂.slotsUsed } : State).setVm s₂.vm).setTop g).pushFrame (.throwing q))
    rw [← hs₂]
    exact hsteps
end Payer
section Calls
variable {p : Program} {l : Launch} {e : Env} {R : Room} {s : State} {m : MethodId} {args : Array Value} {below : List Frame} {meth : Method} {c : Code} {T : State} {locs : List Loc} {cells slots : Nat}
theorem vx_callV (X : Stand p l e R s m args below meth c T locs cells slots) (hexec : p.tables.exec = Jvm.exec) {own C : String} {index : Nat} {y : MethodName} {bytes : ByteArray} {maxL : Nat} {ret : Option FieldType}
    (hown : s.vm.findClass own = some m.cls) (hlink : (Cond.methodLink own index y).before args s = true) (hinst : (Cond.instanceMethod y).before args s = true) (hsel : (Cond.selects C y y).before args s = true)
    (hcode : (Cond.code y bytes maxL ret).before args s = true) (hy : y.cls ≠ "java/lang/invoke/MethodHandle" ∧ y.cls ≠ "java/lang/invoke/VarHandle")
    {W9 : Nat} {Pre : Pt → Array Value → Prop} {Post : Pt → Array Value → Option Value → Pt → Prop} {PostX : Pt → Array Value → Addr → Pt → Prop} (hK : vx_Back l R p e below s args y 3 W9 Pre Post PostX)
    {b : Addr} {cellB : Cell} (hcell : T.heap[b]? = some cellB) (hobj : cellB.vm.isStatics = false) (hcls : s.vm.findClass C = some cellB.cls)
    {g : JFrame} (hg : g.method = m) (hsize : g.locals.size = c.maxLocals) {argsL rest : List Value} (hlen : ∀ sig, parseMethodDescriptor y.desc = some sig → argsL.length = sig.parameters.length)
    (hstack : g.stack = argsL.reverse ++ .ref b :: rest) (hW : 2 * g.monitorRoom + (rest.map fun v => v.category).sum ≤ W9) (hdg : decode c.code g.pc = .ok (.invokevirtual index, 3))
    (hpre : ∀ vm₁, s.WarmedH vm₁ → Pre ⟨T.setVm vm₁, locs, cells, slots⟩ (Value.ref b :: argsL).toArray) :
    (∃ (v : Option Value) (vm₁ : Vm) (B : Pt), s.WarmedH vm₁ ∧ Stand p l e R s m args below meth c B.U B.locs B.cells B.slots ∧ Post ⟨T.setVm vm₁, locs, cells, slots⟩ (Value.ref b :: argsL).toArray v B ∧
      ∀ target, Steps p.tables e below (B.U.setTop { g with pc := g.pc + 3, stack := v.toList ++ rest }) target → Steps p.tables e below (T.setTop g) target) ∨
    (∃ (q : Addr) (vm₁ : Vm) (B : Pt), s.WarmedH vm₁ ∧ Stand p l e R s m args below meth c B.U B.locs B.cells B.slots ∧ PostX ⟨T.setVm vm₁, locs, cells, slots⟩ (Value.ref b :: argsL).toArray q B ∧
      Steps p.tables e below (T.setTop g) ((B.U.setTop { g with stack := rest }).pushFrame (.throwing q))) := by
  obtain ⟨mk, methM, hnamed, hmethM, hstM, habM⟩ := Cond.instanceMethod_spec hinst
  obtain ⟨methM', cM, hmethM', -, -, -, -, -, -, hsigM⟩ := Cond.code_spec hnamed hcode
  cases hmethM.symm.trans hmethM'
  obtain ⟨c2, r2, m2, q1, q2, q3, q4, kP, hkP, hkPi⟩ := Cond.selects_spec hsel
  cases hcls.symm.trans q1
  cases (State.methodFound?_of_named hnamed hy).symm.trans q2
  cases hnamed.symm.trans q3
  have hselP : selectMethod e.platform s.vm cellB.cls mk = .method mk := by rw [Launch.admits_selectMethod X.admits]; exact q4
  obtain ⟨vm₁, X₁, hstep₁⟩ := X.invokevirtual hexec hown hlink hnamed hmethM hstM hkP hkPi hy (a := b) (cell := cellB) hcell
    (fun z h => by rw [h] at hobj; cases hobj) hselP hmethM habM hkP hkPi (g := g) hg (argsL := argsL) (rest := rest) (hlen _ hsigM) hstack hdg
  rcases hK m meth c ⟨T.setVm vm₁, locs, cells, slots⟩ { g with stack := rest } (.invokevirtual index) mk (Value.ref b :: argsL).toArray X₁ hg hsize hdg hW (X₁.named hnamed) (hpre vm₁ X₁.warmed) with ⟨v, B, X', hpost, hsteps⟩ | ⟨q, B, X', hpost, hsteps⟩
  · exact Or.inl ⟨v, vm₁, B, X₁.warmed, X', hpost, fun target h => hstep₁ _ fun acts => by rw [doInvoke_state]; exact hsteps.trans h⟩
  · exact Or.inr ⟨q, vm₁, B, X₁.warmed, X', hpost, hstep₁ _ fun acts => by rw [doInvoke_state]; exact hsteps⟩
theorem vx_callS (X : Stand p l e R s m args below meth c T locs cells slots) (hexec : p.tables.exec = Jvm.exec) {own : String} {index : Nat} {y : MethodName} {bytes : ByteArray} {maxL : Nat} {ret : Option FieldType}
    (hown : s.vm.findClass own = some m.cls) (hlink : (Cond.methodLink own index y).before args s = true) (hstat : (Cond.static y).before args s = true) (hinit : (Cond.initialized y.cls).before args s = true)
    (hcode : (Cond.code y bytes maxL ret).before args s = true) (hy : y.cls ≠ "java/lang/invoke/MethodHandle" ∧ y.cls ≠ "java/lang/invoke/VarHandle")
    {W9 : Nat} {Pre : Pt → Array Value → Prop} {Post : Pt → Array Value → Option Value → Pt → Prop} {PostX : Pt → Array Value → Addr → Pt → Prop} (hK : vx_Back l R p e below s args y 3 W9 Pre Post PostX)
    {g : JFrame} (hg : g.method = m) (hsize : g.locals.size = c.maxLocals) {argsL rest : List Value} (hlen : ∀ sig, parseMethodDescriptor y.desc = some sig → argsL.length = sig.parameters.length)
    (hstack : g.stack = argsL.reverse ++ rest) (hW : 2 * g.monitorRoom + (rest.map fun v => v.category).sum ≤ W9) (hdg : decode c.code g.pc = .ok (.invokestatic index, 3))
    (hpre : ∀ vm₁, s.WarmedH vm₁ → Pre ⟨T.setVm vm₁, locs, cells, slots⟩ argsL.toArray) :
    (∃ (v : Option Value) (vm₁ : Vm) (B : Pt), s.WarmedH vm₁ ∧ Stand p l e R s m args below meth c B.U B.locs B.cells B.slots ∧ Post ⟨T.setVm vm₁, locs, cells, slots⟩ argsL.toArray v B ∧
      ∀ target, Steps p.tables e below (B.U.setTop { g with pc := g.pc + 3, stack := v.toList ++ rest }) target → Steps p.tables e below (T.setTop g) target) ∨
    (∃ (q : Addr) (vm₁ : Vm) (B : Pt), s.WarmedH vm₁ ∧ Stand p l e R s m args below meth c B.U B.locs B.cells B.slots ∧ PostX ⟨T.setVm vm₁, locs, cells, slots⟩ argsL.toArray q B ∧
      Steps p.tables e below (T.setTop g) ((B.U.setTop { g with stack := rest }).pushFrame (.throwing q))) := by
  obtain ⟨mk, hnamed⟩ := Cond.code_named hcode
  obtain ⟨methM, cM, hmethM, -, -, -, -, -, -, hsigM⟩ := Cond.code_spec hnamed hcode
  have hstatic : methM.isStatic = true := Cond.static_spec hnamed hmethM hstat
  obtain ⟨kP, hkP, -⟩ := className_of_methodNamed hnamed
  have hinitP : kP.init = .initialized := Cond.initialized_spec (findClass_of_methodNamed hnamed) hkP hinit
  obtain ⟨vm₁, X₁, hstep₁⟩ := X.invokestatic hexec hown hlink hnamed hmethM hstatic hkP hinitP hy (g := g) hg (argsL := argsL) (rest := rest) (hlen _ hsigM) hstack hdg
  rcases hK m meth c ⟨T.setVm vm₁, locs, cells, slots⟩ { g with stack := rest } (.invokestatic index) mk argsL.toArray X₁ hg hsize hdg hW (X₁.named hnamed) (hpre vm₁ X₁.warmed) with ⟨v, B, X', hpost, hsteps⟩ | ⟨q, B, X', hpost, hsteps⟩
  · exact Or.inl ⟨v, vm₁, B, X₁.warmed, X', hpost, fun target h => hstep₁ _ fun acts => by rw [doInvoke_state]; exact hsteps.trans h⟩
  · exact Or.inr ⟨q, vm₁, B, X₁.warmed, X', hpost, hstep₁ _ fun acts => by rw [doInvoke_state]; exact hsteps⟩
end Calls
theorem vx_cls {s : State} {T : State} {vm₁ : Vm} {E : String} {k : ClassId} (hW : s.WarmedH vm₁) (h : (T.setVm vm₁).vm.findClass E = some k) : s.vm.findClass E = some k := by
  have h1 : vm₁.findClass E = some k := h
  rw [hW.alike.findClass] at h1
  exact h1
/-- the method's frame g, with q thrown over it -/
def vx_W (p : Program) (l : Launch) (e : Env) (R : Room) (s : State) (m : MethodId) (args : Array Value) (below : List Frame) (meth : Method) (c : Code) (H : Heap) (locs : List Loc) (cells slots : Nat) (Q : State → Prop) (g : JFrame) (q : Addr) : Prop :=
  ∀ T : State, T.heap = H → Stand p l e R s m args below meth c T locs cells slots → ∃ t, Steps p.tables e below ((T.setTop g).pushFrame (.throwing q)) t ∧ Q t
def vx_Run (p : Program) (l : Launch) (e : Env) (R : Room) (s : State) (m : MethodId) (args : Array Value) (below : List Frame) (meth : Method) (c : Code) (H : Heap) (locs : List Loc) (cells slots mc ms : Nat) (g : JFrame) (rest : List Value) (Qa : State → Outcome → State → Prop) (XC : String → State → State → Prop) (free : Addr → Prop) : Prop :=
  ∀ T : State, T.heap = H → Stand p l e R s m args below meth c T locs cells slots →
    (∃ (v : Option Value) (st₀ t T' : State) (L : List Loc), st₀.heap = H ∧ Stand p l e R s m args below meth c T' (locs ++ L) (cells + mc) (slots + ms) ∧ (∀ q ∈ L, free q.base) ∧ T'.heap = t.heap ∧ T'.vm = t.vm ∧ Qa st₀ (.returned v) t ∧
      Goes p e below T g T' { g with pc := g.pc + 3, stack := v.toList ++ rest }) ∨
    (∃ (q : Addr) (st₀ t T' : State) (L : List Loc) (E : String) (ce : Cell), st₀.heap = H ∧ Stand p l e R s m args below meth c T' (locs ++ L) (cells + mc) (slots + ms) ∧ (∀ z ∈ L, free z.base) ∧ T'.heap = t.heap ∧ T'.vm = t.vm ∧ XC E st₀ t ∧ t.heap[q]? = some ce ∧ ce.vm = .none ∧ s.vm.findClass E = some ce.cls ∧
      Steps p.tables e below (T.setTop g) ((T'.setTop { g with stack := rest }).pushFrame (.throwing q)))
def vx_X {S : Type} (px : S → Prop) (B : String → S → State → Prop) (A : Nat → Prop) : String → State → State → Prop := fun E st t => ∃ u : S, px u ∧ B E u t ∧ va_F A st t
section Runs
variable {p : Program} {l : Launch} {e : Env} {R : Room} {s : State} {m : MethodId} {args : Array Value} {below : List Frame} {meth : Method} {c : Code} {H : Heap} {locs : List Loc} {cells slots : Nat}
variable {y : MethodName} {bytes cc : ByteArray} {maxL nL mc ms n index : Nat} {ret : Option FieldType} {ws : List Cond} {rm : Room} {Pc : Array Value → State → Prop} {Qc : Array Value → State → Outcome → State → Prop} {XC : String → State → State → Prop} {free : Addr → Prop} {Ts : List Cond} {own C : String} {b : Addr} {As rest : List Value} {g : JFrame}
theorem vx_callBack (cb : CallB R s args own index y bytes maxL ret ws rm mc ms n) (hM : vx_Met l y ws rm Pc Qc XC mc ms free) (hbl : FrameBlind Pc) : vx_Back l R p e below s args y 3 8 (PreOf R mc ms Pc) (PostOf Qc mc ms free) (vx_Post XC mc ms free) := by
  obtain ⟨hrc, hrs, hfr, hlo, hws, hcw, -, hini, -⟩ := cb
  exact vx_back (bytes := bytes) (maxL := maxL) (ret := ret) hM hbl hrc hrs hfr hlo hws hcw (fun a' U hW => word_at hW (Or.inl (by first | rfl | simp [Cond.onTables, Cond.keeps, Cond.steady])) hini)
theorem vx_runV (S : CallFix p m c cc nL s args Ts own) (hM : vx_Met l y ws rm Pc Qc XC mc ms free) (cw : CallW R s args own C index y bytes maxL ret ws rm mc ms n) (hp : PreV s H C b Pc As)
    (hg : g.method = m) (hn : As.length = n) (hsize : g.locals.size = nL) (hstack : g.stack = As.reverse ++ .ref b :: rest) (hW : 2 * g.monitorRoom + (rest.map fun v => v.category).sum ≤ 8) (hdg : decode cc g.pc = .ok (.invokevirtual index, 3)) (hf : cells + mc ≤ R.cells ∧ slots + ms ≤ R.slots) :
    vx_Run p l e R s m args below meth c H locs cells slots mc ms g rest (Qc (Value.ref b :: As).toArray) XC free := by
  have hK : vx_Back l R p e below s args y 3 8 (PreOf R mc ms Pc) (PostOf Qc mc ms free) (vx_Post XC mc ms free) := vx_callBack cw.1 hM hp.1
  obtain ⟨⟨-, -, -, -, -, -, hcode, -, hy, hlen, hl⟩, hin, hse⟩ := cw
  obtain ⟨hx, hb, hml, ho, -⟩ := S
  obtain ⟨-, ⟨cellB, hcB, hoB, hclB⟩, hPc⟩ := hp
  intro T hT X
  rcases vx_callV X hx (C := C) (bytes := bytes) (maxL := maxL) (ret := ret) ho hl hin hse hcode hy hK (by rw [hT]; exact hcB) hoB hclB hg (hsize.trans hml.symm) (argsL := As) (rest := rest) (fun sig h => hn.trans (hlen sig h)) hstack hW (by rw [hb]; exact hdg)
    (fun vm₁ hW₁ => ⟨hf.1, hf.2, hPc (T.setVm vm₁) hT hW₁⟩) with ⟨v, vm₁, ⟨U', l2, c2, s2⟩, hW₁, X', ⟨g', mk, t, L, e1, e2, hq, h1, hL, h2, h3⟩, st⟩ | ⟨q, vm₁, ⟨U', l2, c2, s2⟩, hW₁, X', ⟨g', mk, t, L, E, ce, e1, e2, hq, hce, hcv, hcl, h1, hL, h2, h3⟩, st⟩
  · dsimp only [Pt.U, Pt.locs, Pt.cells, Pt.slots] at X' e1 e2 h1 h2 h3 st
    subst h1; subst h2; subst h3
    exact Or.inl ⟨v, (T.setVm vm₁).calling g' mk (Value.ref b :: As).toArray, t, U', L, hT, X', hL, e1, e2, hq, st⟩
  · dsimp only [Pt.U, Pt.locs, Pt.cells, Pt.slots] at X' e1 e2 h1 h2 h3 st hcl
    subst h1; subst h2; subst h3
    exact Or.inr ⟨q, (T.setVm vm₁).calling g' mk (Value.ref b :: As).toArray, t, U', L, E, ce, hT, X', hL, e1, e2, hq, hce, hcv, vx_cls hW₁ hcl, st⟩
theorem vx_runS (S : CallFix p m c cc nL s args Ts own) (hM : vx_Met l y ws rm Pc Qc XC mc ms free) (cw : CallB R s args own index y bytes maxL ret ws rm mc ms n ∧ (Cond.static y).before args s = true) (hp : PreS s H Pc As)
    (hg : g.method = m) (hn : As.length = n) (hsize : g.locals.size = nL) (hstack : g.stack = As.reverse ++ rest) (hW : 2 * g.monitorRoom + (rest.map fun v => v.category).sum ≤ 8) (hdg : decode cc g.pc = .ok (.invokestatic index, 3)) (hf : cells + mc ≤ R.cells ∧ slots + ms ≤ R.slots) :
    vx_Run p l e R s m args below meth c H locs cells slots mc ms g rest (Qc As.toArray) XC free := by
  have hK : vx_Back l R p e below s args y 3 8 (PreOf R mc ms Pc) (PostOf Qc mc ms free) (vx_Post XC mc ms free) := vx_callBack cw.1 hM hp.1
  obtain ⟨⟨-, -, -, -, -, -, hcode, hini, hy, hlen, hl⟩, hstt⟩ := cw
  obtain ⟨hx, hb, hml, ho, -⟩ := S
  intro T hT X
  rcases vx_callS X hx (bytes := bytes) (maxL := maxL) (ret := ret) ho hl hstt hini hcode hy hK hg (hsize.trans hml.symm) (argsL := As) (rest := rest) (fun sig h => hn.trans (hlen sig h)) hstack hW (by rw [hb]; exact hdg)
    (fun vm₁ hW₁ => ⟨hf.1, hf.2, hp.2 (T.setVm vm₁) hT hW₁⟩) with ⟨v, vm₁, ⟨U', l2, c2, s2⟩, hW₁, X', ⟨g', mk, t, L, e1, e2, hq, h1, hL, h2, h3⟩, st⟩ | ⟨q, vm₁, ⟨U', l2, c2, s2⟩, hW₁, X', ⟨g', mk, t, L, E, ce, e1, e2, hq, hce, hcv, hcl, h1, hL, h2, h3⟩, st⟩
  · dsimp only [Pt.U, Pt.locs, Pt.cells, Pt.slots] at X' e1 e2 h1 h2 h3 st
    subst h1; subst h2; subst h3
    exact Or.inl ⟨v, (T.setVm vm₁).calling g' mk As.toArray, t, U', L, hT, X', hL, e1, e2, hq, st⟩
  · dsimp only [Pt.U, Pt.locs, Pt.cells, Pt.slots] at X' e1 e2 h1 h2 h3 st hcl
    subst h1; subst h2; subst h3
    exact Or.inr ⟨q, (T.setVm vm₁).calling g' mk As.toArray, t, U', L, E, ce, hT, X', hL, e1, e2, hq, hce, hcv, vx_cls hW₁ hcl, st⟩
end Runs
section Rows
variable {p : Program} {l : Launch} {e : Env} {R : Room} {s : State} {m : MethodId} {args : Array Value} {below : List Frame} {meth : Method} {c : Code} {H : Heap} {locs : List Loc} {cells slots : Nat} {Q : State → Prop}
variable {mc ms : Nat} {free : Addr → Prop} {A0 A1 : Nat → Prop} {H0 : Heap} {a : Array Value} {pc : Nat} {ls : Array Slot} {st0 rest : List Value}
theorem vx_keep {st₀ t T' : State} {L : List Loc} (h0 : st₀.heap = H) (e1 : T'.heap = t.heap) (hS : va_S A0 H0 H locs) (hA : ∀ q, q < H.size → A1 q → A0 q) (hf : ∀ q, free q → A0 q) (hL : ∀ q ∈ L, free q.base) (hF : va_F A1 st₀ t) :
    H.size ≤ T'.heap.size ∧ (∀ q : Nat, q < H.size → ¬ A1 q → T'.heap[q]? = H[q]?) ∧ va_S A0 H0 T'.heap (locs ++ L) := by
  obtain ⟨hz, hk⟩ := hF
  rw [h0] at hz hk
  exact ⟨by rw [e1]; exact hz, fun q h1 h2 => by rw [e1]; exact hk q h1 h2,
    ⟨Nat.le_trans hS.1 (by rw [e1]; exact hz), fun q h1 h2 => by rw [e1, hk q (Nat.lt_of_lt_of_le h1 hS.1) (fun z => h2 (hA q (Nat.lt_of_lt_of_le h1 hS.1) z))]; exact hS.2.1 q h1 h2, fun q hq => by
      rcases List.mem_append.mp hq with h | h
      · exact hS.2.2 q h
      · exact hf _ (hL q h)⟩⟩
theorem vx_calli {S SX : Type} {post : Int32 → S → Prop} {px : SX → Prop} {B : S → State → Prop} {BX : String → SX → State → Prop} {AX : Nat → Prop} (hr : vx_Run p l e R s m args below meth c H locs cells slots mc ms (F0 m pc ls st0) rest (va_Qi post B A1 a) (vx_X px BX AX) free) (hS : va_S A0 H0 H locs) (hA : ∀ q, q < H.size → A1 q → A0 q) (hf : ∀ q, free q → A0 q) (hAX : ∀ q, q < H.size → AX q → A0 q)
    (kx : ∀ (E : String) (ce : Cell) (q9 : Addr) (u : SX) (t : State) (H1 : Heap) (locs1 : List Loc), t.heap = H1 → s.vm.Alike t.vm → px u → BX E u t → H.size ≤ H1.size → (∀ q : Nat, q < H.size → ¬ AX q → H1[q]? = H[q]?) → va_S A0 H0 H1 locs1 → H1[q9]? = some ce → ce.vm = .none → s.vm.findClass E = some ce.cls → vx_W p l e R s m args below meth c H1 locs1 (cells + mc) (slots + ms) Q (F0 m pc ls rest) q9)
    (kk : ∀ (r : Int32) (u : S) (t : State) (H1 : Heap) (locs1 : List Loc), t.heap = H1 → s.vm.Alike t.vm → post r u → B u t → H.size ≤ H1.size → (∀ q : Nat, q < H.size → ¬ A1 q → H1[q]? = H[q]?) → va_S A0 H0 H1 locs1 → W p l e R s m args below meth c H1 locs1 (cells + mc) (slots + ms) Q (F0 m (pc + 3) ls (.int r :: rest))) : W p l e R s m args below meth c H locs cells slots Q (F0 m pc ls st0) := by
  intro T hT X
  rcases hr T hT X with ⟨v, st₀, t, T', L, h0, X', hL, e1, e2, ⟨⟨r, u, hv, hp, hb⟩, hF⟩, st⟩ | ⟨q, st₀, t, T', L, E, ce, h0, X', hL, e1, e2, ⟨u, hp, hb, hF⟩, hce, hcv, hcl, st⟩
  · cases hv
    obtain ⟨k1, k2, k3⟩ := vx_keep h0 e1 hS hA hf hL hF
    obtain ⟨t2, a1, b1⟩ := kk r u t T'.heap (locs ++ L) e1.symm (by rw [← e2]; exact X'.warmed.alike) hp hb k1 k2 k3 T' rfl X'
    exact ⟨t2, st t2 a1, b1⟩
  · obtain ⟨k1, k2, k3⟩ := vx_keep h0 e1 hS hAX hf hL hF
    obtain ⟨t2, a1, b1⟩ := kx E ce q u t T'.heap (locs ++ L) e1.symm (by rw [← e2]; exact X'.warmed.alike) hp hb k1 k2 k3 (by rw [e1]; exact hce) hcv hcl T' rfl X'
    exact ⟨t2, st.trans a1, b1⟩
theorem vx_calll {S SX : Type} {post : Int64 → S → Prop} {px : SX → Prop} {B : S → State → Prop} {BX : String → SX → State → Prop} {AX : Nat → Prop} (hr : vx_Run p l e R s m args below meth c H locs cells slots mc ms (F0 m pc ls st0) rest (va_Ql post B A1 a) (vx_X px BX AX) free) (hS : va_S A0 H0 H locs) (hA : ∀ q, q < H.size → A1 q → A0 q) (hf : ∀ q, free q → A0 q) (hAX : ∀ q, q < H.size → AX q → A0 q)
    (kx : ∀ (E : String) (ce : Cell) (q9 : Addr) (u : SX) (t : State) (H1 : Heap) (locs1 : List Loc), t.heap = H1 → s.vm.Alike t.vm → px u → BX E u t → H.size ≤ H1.size → (∀ q : Nat, q < H.size → ¬ AX q → H1[q]? = H[q]?) → va_S A0 H0 H1 locs1 → H1[q9]? = some ce → ce.vm = .none → s.vm.findClass E = some ce.cls → vx_W p l e R s m args below meth c H1 locs1 (cells + mc) (slots + ms) Q (F0 m pc ls rest) q9)
    (kk : ∀ (r : Int64) (u : S) (t : State) (H1 : Heap) (locs1 : List Loc), t.heap = H1 → s.vm.Alike t.vm → post r u → B u t → H.size ≤ H1.size → (∀ q : Nat, q < H.size → ¬ A1 q → H1[q]? = H[q]?) → va_S A0 H0 H1 locs1 → W p l e R s m args below meth c H1 locs1 (cells + mc) (slots + ms) Q (F0 m (pc + 3) ls (.long r :: rest))) : W p l e R s m args below meth c H locs cells slots Q (F0 m pc ls st0) := by
  intro T hT X
  rcases hr T hT X with ⟨v, st₀, t, T', L, h0, X', hL, e1, e2, ⟨⟨r, u, hv, hp, hb⟩, hF⟩, st⟩ | ⟨q, st₀, t, T', L, E, ce, h0, X', hL, e1, e2, ⟨u, hp, hb, hF⟩, hce, hcv, hcl, st⟩
  · cases hv
    obtain ⟨k1, k2, k3⟩ := vx_keep h0 e1 hS hA hf hL hF
    obtain ⟨t2, a1, b1⟩ := kk r u t T'.heap (locs ++ L) e1.symm (by rw [← e2]; exact X'.warmed.alike) hp hb k1 k2 k3 T' rfl X'
    exact ⟨t2, st t2 a1, b1⟩
  · obtain ⟨k1, k2, k3⟩ := vx_keep h0 e1 hS hAX hf hL hF
    obtain ⟨t2, a1, b1⟩ := kx E ce q u t T'.heap (locs ++ L) e1.symm (by rw [← e2]; exact X'.warmed.alike) hp hb k1 k2 k3 (by rw [e1]; exact hce) hcv hcl T' rfl X'
    exact ⟨t2, st.trans a1, b1⟩
theorem vx_callf {S SX : Type} {post : UInt32 → S → Prop} {px : SX → Prop} {B : S → State → Prop} {BX : String → SX → State → Prop} {AX : Nat → Prop} (hr : vx_Run p l e R s m args below meth c H locs cells slots mc ms (F0 m pc ls st0) rest (va_Qf post B A1 a) (vx_X px BX AX) free) (hS : va_S A0 H0 H locs) (hA : ∀ q, q < H.size → A1 q → A0 q) (hf : ∀ q, free q → A0 q) (hAX : ∀ q, q < H.size → AX q → A0 q)
    (kx : ∀ (E : String) (ce : Cell) (q9 : Addr) (u : SX) (t : State) (H1 : Heap) (locs1 : List Loc), t.heap = H1 → s.vm.Alike t.vm → px u → BX E u t → H.size ≤ H1.size → (∀ q : Nat, q < H.size → ¬ AX q → H1[q]? = H[q]?) → va_S A0 H0 H1 locs1 → H1[q9]? = some ce → ce.vm = .none → s.vm.findClass E = some ce.cls → vx_W p l e R s m args below meth c H1 locs1 (cells + mc) (slots + ms) Q (F0 m pc ls rest) q9)
    (kk : ∀ (r : UInt32) (u : S) (t : State) (H1 : Heap) (locs1 : List Loc), t.heap = H1 → s.vm.Alike t.vm → post r u → B u t → H.size ≤ H1.size → (∀ q : Nat, q < H.size → ¬ A1 q → H1[q]? = H[q]?) → va_S A0 H0 H1 locs1 → W p l e R s m args below meth c H1 locs1 (cells + mc) (slots + ms) Q (F0 m (pc + 3) ls (.float r :: rest))) : W p l e R s m args below meth c H locs cells slots Q (F0 m pc ls st0) := by
  intro T hT X
  rcases hr T hT X with ⟨v, st₀, t, T', L, h0, X', hL, e1, e2, ⟨⟨r, u, hv, hp, hb⟩, hF⟩, st⟩ | ⟨q, st₀, t, T', L, E, ce, h0, X', hL, e1, e2, ⟨u, hp, hb, hF⟩, hce, hcv, hcl, st⟩
  · cases hv
    obtain ⟨k1, k2, k3⟩ := vx_keep h0 e1 hS hA hf hL hF
    obtain ⟨t2, a1, b1⟩ := kk r u t T'.heap (locs ++ L) e1.symm (by rw [← e2]; exact X'.warmed.alike) hp hb k1 k2 k3 T' rfl X'
    exact ⟨t2, st t2 a1, b1⟩
  · obtain ⟨k1, k2, k3⟩ := vx_keep h0 e1 hS hAX hf hL hF
    obtain ⟨t2, a1, b1⟩ := kx E ce q u t T'.heap (locs ++ L) e1.symm (by rw [← e2]; exact X'.warmed.alike) hp hb k1 k2 k3 (by rw [e1]; exact hce) hcv hcl T' rfl X'
    exact ⟨t2, st.trans a1, b1⟩
theorem vx_calld {S SX : Type} {post : UInt64 → S → Prop} {px : SX → Prop} {B : S → State → Prop} {BX : String → SX → State → Prop} {AX : Nat → Prop} (hr : vx_Run p l e R s m args below meth c H locs cells slots mc ms (F0 m pc ls st0) rest (va_Qd post B A1 a) (vx_X px BX AX) free) (hS : va_S A0 H0 H locs) (hA : ∀ q, q < H.size → A1 q → A0 q) (hf : ∀ q, free q → A0 q) (hAX : ∀ q, q < H.size → AX q → A0 q)
    (kx : ∀ (E : String) (ce : Cell) (q9 : Addr) (u : SX) (t : State) (H1 : Heap) (locs1 : List Loc), t.heap = H1 → s.vm.Alike t.vm → px u → BX E u t → H.size ≤ H1.size → (∀ q : Nat, q < H.size → ¬ AX q → H1[q]? = H[q]?) → va_S A0 H0 H1 locs1 → H1[q9]? = some ce → ce.vm = .none → s.vm.findClass E = some ce.cls → vx_W p l e R s m args below meth c H1 locs1 (cells + mc) (slots + ms) Q (F0 m pc ls rest) q9)
    (kk : ∀ (r : UInt64) (u : S) (t : State) (H1 : Heap) (locs1 : List Loc), t.heap = H1 → s.vm.Alike t.vm → post r u → B u t → H.size ≤ H1.size → (∀ q : Nat, q < H.size → ¬ A1 q → H1[q]? = H[q]?) → va_S A0 H0 H1 locs1 → W p l e R s m args below meth c H1 locs1 (cells + mc) (slots + ms) Q (F0 m (pc + 3) ls (.double r :: rest))) : W p l e R s m args below meth c H locs cells slots Q (F0 m pc ls st0) := by
  intro T hT X
  rcases hr T hT X with ⟨v, st₀, t, T', L, h0, X', hL, e1, e2, ⟨⟨r, u, hv, hp, hb⟩, hF⟩, st⟩ | ⟨q, st₀, t, T', L, E, ce, h0, X', hL, e1, e2, ⟨u, hp, hb, hF⟩, hce, hcv, hcl, st⟩
  · cases hv
    obtain ⟨k1, k2, k3⟩ := vx_keep h0 e1 hS hA hf hL hF
    obtain ⟨t2, a1, b1⟩ := kk r u t T'.heap (locs ++ L) e1.symm (by rw [← e2]; exact X'.warmed.alike) hp hb k1 k2 k3 T' rfl X'
    exact ⟨t2, st t2 a1, b1⟩
  · obtain ⟨k1, k2, k3⟩ := vx_keep h0 e1 hS hAX hf hL hF
    obtain ⟨t2, a1, b1⟩ := kx E ce q u t T'.heap (locs ++ L) e1.symm (by rw [← e2]; exact X'.warmed.alike) hp hb k1 k2 k3 (by rw [e1]; exact hce) hcv hcl T' rfl X'
    exact ⟨t2, st.trans a1, b1⟩
theorem vx_callv {S SX : Type} {post : S → Prop} {px : SX → Prop} {B : S → State → Prop} {BX : String → SX → State → Prop} {AX : Nat → Prop} (hr : vx_Run p l e R s m args below meth c H locs cells slots mc ms (F0 m pc ls st0) rest (va_Qv post B A1 a) (vx_X px BX AX) free) (hS : va_S A0 H0 H locs) (hA : ∀ q, q < H.size → A1 q → A0 q) (hf : ∀ q, free q → A0 q) (hAX : ∀ q, q < H.size → AX q → A0 q)
    (kx : ∀ (E : String) (ce : Cell) (q9 : Addr) (u : SX) (t : State) (H1 : Heap) (locs1 : List Loc), t.heap = H1 → s.vm.Alike t.vm → px u → BX E u t → H.size ≤ H1.size → (∀ q : Nat, q < H.size → ¬ AX q → H1[q]? = H[q]?) → va_S A0 H0 H1 locs1 → H1[q9]? = some ce → ce.vm = .none → s.vm.findClass E = some ce.cls → vx_W p l e R s m args below meth c H1 locs1 (cells + mc) (slots + ms) Q (F0 m pc ls rest) q9)
    (kk : ∀ (u : S) (t : State) (H1 : Heap) (locs1 : List Loc), t.heap = H1 → s.vm.Alike t.vm → post u → B u t → H.size ≤ H1.size → (∀ q : Nat, q < H.size → ¬ A1 q → H1[q]? = H[q]?) → va_S A0 H0 H1 locs1 → W p l e R s m args below meth c H1 locs1 (cells + mc) (slots + ms) Q (F0 m (pc + 3) ls (rest))) : W p l e R s m args below meth c H locs cells slots Q (F0 m pc ls st0) := by
  intro T hT X
  rcases hr T hT X with ⟨v, st₀, t, T', L, h0, X', hL, e1, e2, ⟨⟨u, hv, hp, hb⟩, hF⟩, st⟩ | ⟨q, st₀, t, T', L, E, ce, h0, X', hL, e1, e2, ⟨u, hp, hb, hF⟩, hce, hcv, hcl, st⟩
  · cases hv
    obtain ⟨k1, k2, k3⟩ := vx_keep h0 e1 hS hA hf hL hF
    obtain ⟨t2, a1, b1⟩ := kk u t T'.heap (locs ++ L) e1.symm (by rw [← e2]; exact X'.warmed.alike) hp hb k1 k2 k3 T' rfl X'
    exact ⟨t2, st t2 a1, b1⟩
  · obtain ⟨k1, k2, k3⟩ := vx_keep h0 e1 hS hAX hf hL hF
    obtain ⟨t2, a1, b1⟩ := kx E ce q u t T'.heap (locs ++ L) e1.symm (by rw [← e2]; exact X'.warmed.alike) hp hb k1 k2 k3 (by rw [e1]; exact hce) hcv hcl T' rfl X'
    exact ⟨t2, st.trans a1, b1⟩
/-- caught by the row x of this method's table; the rows ahead don't take it -/
theorem vx_catch {own name : String} {E : String} {ce : Cell} {q : Addr} (hown : s.vm.findClass own = some m.cls) (pre : List ExceptionTableEntry) (x : ExceptionTableEntry) (suf : List ExceptionTableEntry) (hsplit : c.exceptionTable.toList = pre ++ x :: suf)
    (hpass : ∀ z ∈ pre, covers z pc = false ∨ (z.catchType ≠ 0 ∧ ∃ nm : String, (Cond.classLink own z.catchType nm).before args s = true ∧ va_Nc E nm s)) (hx : covers x pc = true) (h0 : x.catchType ≠ 0)
    (hlink : (Cond.classLink own x.catchType name).before args s = true) (hcast : (Cond.castable E name).before args s = true) (hcell : H[q]? = some ce) (hv : ce.vm = .none) (hcl : s.vm.findClass E = some ce.cls)
    (kk : W p l e R s m args below meth c H locs cells slots Q (F0 m x.handlerPc ls [.ref q])) : vx_W p l e R s m args below meth c H locs cells slots Q (F0 m pc ls rest) q := by
  intro T hT X
  have hpl : e.platform.magicAccessors = ({} : Platform).magicAccessors := by rw [X.admits.platform]
  obtain ⟨c3, c4, hc3, hc4, hasg⟩ := Cond.castable_spec hcast
  cases Option.some.inj (hc3.symm.trans hcl)
  obtain ⟨c5, hc5, hcl5⟩ := Cond.classLink_spec hown hlink e.platform hpl
  cases Option.some.inj (hc4.symm.trans hc5)
  obtain ⟨vm', X', st⟩ := X.thenCaughtThrough q (g := F0 m pc ls rest) rfl (Steps.refl _) (by rw [hT]; exact hcell) (by rw [hv]; rfl) (by obtain ⟨k9, h9, -⟩ := Vm.findClass_spec hcl; exact ⟨k9, h9⟩) pre x suf hsplit
    (fun z hz => by
      rcases hpass z hz with h | ⟨hz0, nm, hl1, hn1⟩
      · exact Or.inl h
      · obtain ⟨c6, hc6, hcl6⟩ := Cond.classLink_spec hown hl1 e.platform hpl
        obtain ⟨a8, b8, h1, h2, h3⟩ := hn1
        cases Option.some.inj (h1.symm.trans hcl)
        cases Option.some.inj (h2.symm.trans hc6)
        exact Or.inr ⟨hz0, _, hcl6, h3⟩) hx (Or.inr ⟨h0, c4, hcl5, hasg⟩)
  obtain ⟨t, a1, b1⟩ := kk (T.setVm vm') hT X'
  exact ⟨t, st.trans a1, b1⟩
end Rows
section Ends
variable {p : Program} {l : Launch} {e : Env} {R : Room} {s : State} {m : MethodId} {args : Array Value} {below : List Frame} {meth : Method} {c : Code} {H : Heap} {locs : List Loc} {cells slots : Nat} {Q : State → Prop}
variable {mc ms : Nat} {free : Addr → Prop} {A0 A1 : Nat → Prop} {H0 : Heap} {a : Array Value} {ls : Array Slot} {st0 rest : List Value}
variable {Qc : Array Value → State → Outcome → State → Prop} {XC : String → State → State → Prop}
/-- what a body that may throw owes at its end -/
def vx_MQ (below : List Frame) (Qc : Array Value → State → Outcome → State → Prop) (XC : String → State → State → Prop) (a : Array Value) (s : State) (mc ms : Nat) (free : Addr → Prop) : State → Prop := fun t =>
  ∃ o, t.status = .running ∧ Ended t below o ∧ vx_Q Qc XC mc ms free a s o t
theorem vx_ret {g : JFrame} {mc ms : Nat} (k : W p l e R s m args below meth c H locs cells slots (MQ below Qc args s mc ms free) g) : W p l e R s m args below meth c H locs cells slots (vx_MQ below Qc XC args s mc ms free) g := by
  intro T hT X
  obtain ⟨t, a1, o, b1, b2, b3, b4⟩ := k T hT X
  exact ⟨t, a1, o, b1, b2, Or.inl ⟨b3, b4⟩⟩
/-- not caught here: it goes on to the caller -/
theorem vx_widen {g : JFrame} {q : Addr} {k n : Nat} (h1 : cells ≤ k) (h2 : slots ≤ n) (kk : vx_W p l e R s m args below meth c H locs k n Q g q) : vx_W p l e R s m args below meth c H locs cells slots Q g q := fun T hT X => kk T hT (stand_widen X h1 h2)
theorem vx_out {pc : Nat} {E : String} {ce : Cell} {q : Addr} {mc ms : Nat} (hout : ∀ x ∈ c.exceptionTable.toList, covers x pc = false) (hlocks : meth.locks = false) (hcell : H[q]? = some ce) (hv : ce.vm = .none) (hcl : s.vm.findClass E = some ce.cls)
    (hx : ∀ t : State, t.heap = H → s.vm.Alike t.vm → XC E s t) (hf : ∀ z ∈ locs, free z.base) (hc : cells ≤ mc) (hs : slots ≤ ms) :
    vx_W p l e R s m args below meth c H locs cells slots (vx_MQ below Qc XC args s mc ms free) (F0 m pc ls rest) q := by
  intro T hT X
  obtain ⟨st1, hrun, hend, hW, hsm⟩ := X.leaveThrown q (g := F0 m pc ls rest) rfl rfl rfl hout hlocks
  have hcell9 : (T.setFrames (.throwing q :: below)).heap[q]? = some ce := by
    show T.heap[q]? = some ce
    rw [hT]; exact hcell
  exact ⟨_, st1, .threw q, hrun, hend, Or.inr ⟨q, rfl, E, ce, locs, hx _ hT hW.alike, hcell9, hv, hcl, hW, hsm.mono hc hs, hf⟩⟩
theorem vx_frame {U : State} {k n : Nat} (h : s.sameButNew ({ U with vm := s.vm } : State) locs k n) : s.heap.size ≤ U.heap.size ∧ ∀ q : Nat, q < s.heap.size → (∀ z ∈ locs, z.base ≠ q) → U.heap[q]? = s.heap[q]? := by
  obtain ⟨-, h2, -, -, -, h6⟩ := h
  refine ⟨h2, fun q hq hz => ?_⟩
  obtain ⟨c9, e1, e2, e3, e4⟩ := h6 q _ (Array.getElem?_eq_getElem hq)
  have hs : c9.slots = (s.heap[q]).slots := Array.ext_getElem? fun i => e4 i fun hm => hz _ hm rfl
  have h9 : c9 = s.heap[q] := by
    rw [hs] at e2
    exact e2
  have e5 : U.heap[q]? = some c9 := e1
  rw [e5, h9, Array.getElem?_eq_getElem hq]
/-- the words of a throw but the four that speak of the heap -/
def vx_no (w : Cond) : Bool := decide (w ≠ .isRef (.static Bundle.tN "UNASSIGNED_STACK" Bundle.steD)) && decide (w ≠ .isRef (.static Bundle.tN "SUPPRESSED_SENTINEL" Bundle.listD)) && decide (w ≠ .laysStatic Bundle.tN "UNASSIGNED_STACK" Bundle.steD) && decide (w ≠ .laysStatic Bundle.tN "SUPPRESSED_SENTINEL" Bundle.listD)
def vx_at0 (own : String) (ic : Nat) (X : String) (names : List String) : List Cond := (Bundle.ownAtoms0 own ic X names).filter vx_no
def vx_atS (own : String) (ic : Nat) (X : String) (names : List String) : List Cond := (Bundle.ownAtoms own ic X names).filter vx_no
/-- a word that the tables alone decide, or a good one -/
def vx_ot (w : Cond) : Bool := w.onTables || goodWord w
theorem vx_ot_at {args a' : Array Value} {s U : State} {w : Cond} (hW : s.WarmedH U.vm) (hvm : s.vm = U.vm) (hg : vx_ot w = true) (h : w.before args s = true) : w.before a' U = true := by
  simp only [vx_ot, Bool.or_eq_true] at hg
  rcases hg with hg | hg
  · exact va_tabs hg hvm h
  · exact word_at hW (good_of_word hg) h
/-- a list's words: the good ones out of the method's own list, the others by premises of their own -/
theorem vx_hat {args : Array Value} {s : State} {L B : List Cond} (h1 : ∀ w ∈ L.filter goodWord, w.before args s = true) (h2 : ∀ w ∈ L.filter (fun w => !goodWord w), w ∈ B) (h3 : ∀ w ∈ B, w.before args s = true) : ∀ w ∈ L, w.before args s = true := by
  intro w hw
  by_cases g : goodWord w = true
  · exact h1 w (List.mem_filter.mpr ⟨hw, g⟩)
  · refine h3 w (h2 w (List.mem_filter.mpr ⟨hw, ?_⟩))
    show (!goodWord w) = true
    cases hgw : goodWord w
    · rfl
    · exact absurd hgw g
theorem vx_c {args : Array Value} {s : State} {w : Cond} {B : List Cond} (h : w.before args s = true) (t : ∀ w ∈ B, w.before args s = true) : ∀ w' ∈ w :: B, w'.before args s = true := fun w' h' => (List.mem_cons.mp h').elim (fun e => by rw [e]; exact h) (t w')
theorem vx_n {args : Array Value} {s : State} : ∀ w ∈ ([] : List Cond), w.before args s = true := fun _ h => nomatch h
theorem vx_own {args : Array Value} {s : State} {L : List Cond} (h1 : ∀ w ∈ L.filter vx_no, w.before args s = true)
    (hU : (Cond.isRef (.static Bundle.tN "UNASSIGNED_STACK" Bundle.steD)).before args s = true) (hN : (Cond.isRef (.static Bundle.tN "SUPPRESSED_SENTINEL" Bundle.listD)).before args s = true)
    (lU : (Cond.laysStatic Bundle.tN "UNASSIGNED_STACK" Bundle.steD).before args s = true) (lN : (Cond.laysStatic Bundle.tN "SUPPRESSED_SENTINEL" Bundle.listD).before args s = true) : ∀ w ∈ L, w.before args s = true := by
  intro w hw
  by_cases e1 : w = .isRef (.static Bundle.tN "UNASSIGNED_STACK" Bundle.steD)
  · rw [e1]; exact hU
  · by_cases e2 : w = .isRef (.static Bundle.tN "SUPPRESSED_SENTINEL" Bundle.listD)
    · rw [e2]; exact hN
    · by_cases e3 : w = .laysStatic Bundle.tN "UNASSIGNED_STACK" Bundle.steD
      · rw [e3]; exact lU
      · by_cases e4 : w = .laysStatic Bundle.tN "SUPPRESSED_SENTINEL" Bundle.listD
        · rw [e4]; exact lN
        · exact h1 w (List.mem_filter.mpr ⟨hw, by unfold vx_no; rw [decide_eq_true e1, decide_eq_true e2, decide_eq_true e3, decide_eq_true e4]; rfl⟩)
/-- where a static field lies, its class's statics cell in H -/
def vx_L (C n d : String) (A : Nat → Prop) (U : State) (H : Heap) : Prop := ∃ (c : ClassId) (k : Class) (i : Nat) (f : Field) (a : Nat) (cell : Cell), U.vm.findClass C = some c ∧ U.fieldFound? C n d = some (c, k, i, f) ∧ f.isStatic = true ∧ k.statics = some a ∧ H[a]? = some cell ∧ cell.vm.isStatics = true ∧ cell.cls = c ∧ f.slot < cell.slots.size ∧ k.staticTypes[f.slot]? = some f.type ∧ ¬ A a
theorem vx_L.moved {C n d : String} {A : Nat → Prop} {u U : State} {H : Heap} (hvm : u.vm.Alike U.vm) (h : vx_L C n d A u H) : vx_L C n d A U H := by
  obtain ⟨c, k, i, f, a, cell, h1, h2, h3, h4, h5, h6, h7, h8, h9, h10⟩ := h
  obtain ⟨k', hi', he⟩ := State.fieldFound?_setVm hvm h2
  exact ⟨c, k', i, f, a, cell, by rw [hvm.findClass]; exact h1, hi', h3, by rw [he]; exact h4, h5, h6, h7, h8, by rw [he]; exact h9, h10⟩
theorem vx_L.kept {C n d : String} {A : Nat → Prop} {U : State} {H H1 : Heap} (h : vx_L C n d A U H) (hq : ∀ a : Nat, a < H.size → ¬ A a → H1[a]? = H[a]?) : vx_L C n d A U H1 := by
  obtain ⟨c, k, i, f, a, cell, h1, h2, h3, h4, h5, h6, h7, h8, h9, h10⟩ := h
  exact ⟨c, k, i, f, a, cell, h1, h2, h3, h4, by rw [hq a (Array.getElem?_eq_some_iff.mp h5).1 h10]; exact h5, h6, h7, h8, h9, h10⟩
theorem vx_L.narrow {C n d : String} {A B : Nat → Prop} {U : State} {H : Heap} (h : vx_L C n d A U H) (hAB : ∀ q, B q → A q) : vx_L C n d B U H := by
  obtain ⟨c, k, i, f, a, cell, h1, h2, h3, h4, h5, h6, h7, h8, h9, h10⟩ := h
  exact ⟨c, k, i, f, a, cell, h1, h2, h3, h4, h5, h6, h7, h8, h9, fun z => h10 (hAB _ z)⟩
theorem vx_L.word {C n d : String} {A : Nat → Prop} {s : State} {args : Array Value} (h : vx_L C n d A s s.heap) : (Cond.laysStatic C n d).before args s = true := by
  obtain ⟨c, k, i, f, a, cell, h1, h2, h3, h4, h5, h6, h7, h8, h9, -⟩ := h
  show (Cond.laysStatic C n d).holds args s none s [] = true
  exact Cond.laysStatic_of h1 h2 h3 h4 h5 h6 h7 h8 h9
/-- .. and what it holds: null or some reference -/
def vx_Zq (C n d : String) (A : Nat → Prop) (U : State) (H : Heap) : Prop := va_Zq C n d A U H ∧ vx_L C n d A U H
theorem vx_Zq.moved {C n d : String} {A : Nat → Prop} {u U : State} {H : Heap} (hvm : u.vm.Alike U.vm) (h : vx_Zq C n d A u H) : vx_Zq C n d A U H := ⟨va_Zq.moved hvm h.1, vx_L.moved hvm h.2⟩
theorem vx_Zq.kept {C n d : String} {A : Nat → Prop} {U : State} {H H1 : Heap} (h : vx_Zq C n d A U H) (hq : ∀ a : Nat, a < H.size → ¬ A a → H1[a]? = H[a]?) : vx_Zq C n d A U H1 := ⟨va_Zq.kept h.1 hq, vx_L.kept h.2 hq⟩
theorem vx_Zq.narrow {C n d : String} {A B : Nat → Prop} {U : State} {H : Heap} (h : vx_Zq C n d A U H) (hAB : ∀ q, B q → A q) : vx_Zq C n d B U H := ⟨va_Zq.narrow h.1 hAB, vx_L.narrow h.2 hAB⟩
theorem vx_Zqof {args : Array Value} {s : State} {C n d : String} {A : Nat → Prop} (hl : (Cond.laysStatic C n d).before args s = true) (hini : (Cond.initialized C).before args s = true) (h : (Cond.isRef (.static C n d)).before args s = true) (hA : ∀ a : Nat, a < s.heap.size → ¬ A a) : vx_Zq C n d A s s.heap := by
  refine ⟨va_Zqof hl hini h hA, ?_⟩
  obtain ⟨c, k, i, f, a, cell, h1, h2, h3, h4, h5, h6, h7, h8, h9⟩ := Cond.laysStatic_spec hl
  exact ⟨c, k, i, f, a, cell, h1, h2, h3, h4, h5, h6, h7, h8, h9, hA a (Array.getElem?_eq_some_iff.mp h5).1⟩
theorem vx_isRef {C n d : String} {v : Value} {A : Nat → Prop} {s : State} {args : Array Value} (h : va_Z C n d v A s s.heap) (hv : v.isRef = true) : (Cond.isRef (.static C n d)).before args s = true := by
  obtain ⟨cf, kf, fi, f, a, cell, h1, h2, h3, h4, h5, h6, h7, -⟩ := h
  have he : (Term.static C n d).eval args s none [] s = some v := by
    simp [Term.eval, State.fieldNamed?, h1, h2, h4, h5, h6, h7]
  simp only [Cond.before, Cond.holds, Cond.value, he]
  cases v <;> simp_all [Value.isRef]
theorem vx_isRefq {C n d : String} {A : Nat → Prop} {s : State} {args : Array Value} (h : va_Zq C n d A s s.heap) : (Cond.isRef (.static C n d)).before args s = true := by
  rcases h with h | ⟨t, h⟩
  · exact vx_isRef h rfl
  · exact vx_isRef h rfl
/-- the same frame, seen from here: as if the method were called anew in this heap -/
theorem vx_rebase {T : State} (X : Stand p l e R s m args below meth c T locs cells slots) {R' : Room} (hf : R'.frames ≤ R.frames) (hl : R'.locals ≤ R.locals) (hc : cells + R'.cells ≤ R.cells) (hs : slots + R'.slots ≤ R.slots) :
    Stand p l e R' ((T.setVm s.vm).setFrames (.invoking m args :: below)) m args below meth c T [] 0 0 := by
  have htop : (T.setVm s.vm).topJava?.isSome := X.here.top
  have hF : ((T.setVm s.vm).setFrames (.invoking m args :: below)).frames = .invoking m args :: below := State.frames_setFrames _ (State.cur_lt_of_top htop)
  obtain ⟨g₀, hg0⟩ := Option.isSome_iff_exists.mp htop
  obtain ⟨r, hr⟩ := State.topJava?_eq_some.mp hg0
  have hl9 : e.platform.stackLimits (T.setVm s.vm).me = e.platform.stackLimits s.me := X.limits
  have hb9 : (T.setVm s.vm).me.stackBytes = s.me.stackBytes := X.bytes
  refine ⟨X.admits, X.cas, X.clock, hF, ?_, X.hears, X.method, X.code, X.here, X.tail, X.warmed, ?_, ?_, ?_⟩
  · have h := X.room
    have hU : ((T.setVm s.vm).setFrames (.invoking m args :: below)).localsInUse = s.localsInUse := by
      rw [State.localsInUse_invoking hF (meth := meth) (c := c) X.method X.code, State.localsInUse_invoking X.frames X.method X.code]
    simp only [State.hasRoom, Bool.and_eq_true, decide_eq_true_eq] at h ⊢
    obtain ⟨⟨⟨⟨h1, h2, h3, h4, h5, h6⟩, h7⟩, h8⟩, h9⟩ := h
    rw [X.frames, List.length_cons] at h2 h3
    have q1 := X.heapSize
    have q2 := X.used
    simp only [hF, hU, List.length_cons, State.stackLimits_setFrames, State.stackBytes_setFrames, hl9, hb9]
    refine ⟨⟨⟨⟨by omega, by omega, by omega, by omega, by omega, h6⟩, ?_⟩, ?_⟩, X.book⟩
    · show T.heap.size + R'.cells ≤ e.platform.maxCells
      omega
    · show T.slotsUsed + R'.slots ≤ e.platform.maxSlots
      omega
  · rw [State.stackLimits_setFrames]; rfl
  · rw [State.stackBytes_setFrames]; rfl
  · refine ⟨?_, Nat.le_refl _, Nat.le_refl _, ?_, ?_, fun a c9 h9 => ⟨c9, h9, rfl, rfl, fun _ _ => rfl⟩⟩
    · obtain ⟨t, ht, -⟩ := State.frames_cons hr
      show T.setVm s.vm = { ((T.setVm s.vm).setFrames (.invoking m args :: below)).setFrames (T.setVm s.vm).frames with heap := T.heap, slotsUsed := T.slotsUsed }
      rw [State.setFrames_setFrames, State.setFrames_self ht]
      rfl
    · show T.slotsUsed = T.slotsUsed + ((T.heap.toList.drop T.heap.size).map (·.slots.size)).sum
      rw [List.drop_eq_nil_of_le (Nat.le_of_eq Array.length_toList)]
      rfl
    · show ((T.heap.toList.drop T.heap.size).map (·.slots.size)).sum ≤ 0
      rw [List.drop_eq_nil_of_le (Nat.le_of_eq Array.length_toList)]
      exact Nat.le_refl _
/-- 'throw new E()': new; dup; invokespecial; athrow -/
theorem vx_throw0 {cc : ByteArray} {pc : Nat} (hexec : p.tables.exec = Jvm.exec) (hb : c.code = cc) (hl : l.stackTraces = false) {own cls : String} {names : List String} {ik ic mc ms : Nat} {A : Nat → Prop}
    (hown : s.vm.findClass own = some m.cls) (hcls : Bundle.fit cls = true) (hnames : ∀ n ∈ names, Bundle.fit n = true)
    (hk : (Cond.classLink own ik cls).before args s = true) (hini : (Cond.initialized cls).before args s = true) (hat : ∀ w ∈ vx_at0 own ic cls names, w.before args s = true)
    (hgood : ∀ w ∈ Cond.classLink own ik cls :: Cond.initialized cls :: vx_at0 own ic cls names, vx_ot w = true)
    (hU : vx_Zq Bundle.tN "UNASSIGNED_STACK" Bundle.steD A s s.heap) (hN : vx_Zq Bundle.tN "SUPPRESSED_SENTINEL" Bundle.listD A s s.heap) (hS : va_S A s.heap H locs) (hsize : ls.size = c.maxLocals)
    (d0 : decode cc pc = .ok (.new ik, 3)) (d3 : decode cc (pc + 3) = .ok (.dup, 1)) (d4 : decode cc (pc + 4) = .ok (.invokespecial ic, 3)) (d7 : decode cc (pc + 7) = .ok (.athrow, 1))
    (hout : ∀ x ∈ c.exceptionTable.toList, covers x (pc + 7) = false)
    (hRframes : names.length + 3 < R.frames) (hRlocals : (rest.map fun v => v.category).sum + (13 * (names.length + 1) + 42) ≤ R.locals) (hRcells : cells + 1 ≤ R.cells) (hRslots : slots + 6 ≤ R.slots) (hlocks : meth.locks = false)
    (hx : ∀ t : State, s.vm.Alike t.vm → H.size ≤ t.heap.size → (∀ q : Nat, q < H.size → t.heap[q]? = H[q]?) → XC cls s t)
    (hf : ∀ z ∈ locs, free z.base) (hc : cells + 1 ≤ mc) (hs : slots + 6 ≤ ms) :
    W p l e R s m args below meth c H locs cells slots (vx_MQ below Qc XC args s mc ms free) (F0 m pc ls rest) := by
  intro T hT X
  have htr : e.platform.stackTraces = false := (show e.platform.stackTraces = l.stackTraces by rw [X.admits.platform]).trans hl
  have Y := vx_rebase X (R' := { frames := R.frames, locals := R.locals, cells := 1, slots := 6 }) (Nat.le_refl _) (Nat.le_refl _) hRcells hRslots
  obtain ⟨s', hA⟩ : ∃ z, z = (T.setVm s.vm).setFrames (.invoking m args :: below) := ⟨_, rfl⟩
  rw [← hA] at Y
  have hvm : s'.vm = s.vm := by rw [hA]; rfl
  have hhp : s'.heap = H := by rw [hA]; exact hT
  have hW0 : s.WarmedH s'.vm := by rw [hvm]; exact State.WarmedH.refl s
  have hat' : ∀ w ∈ vx_at0 own ic cls names, w.before args s' = true := fun w hw => vx_ot_at hW0 hvm.symm (hgood w (List.mem_cons_of_mem _ (List.mem_cons_of_mem _ hw))) (hat w hw)
  have hk' : (Cond.classLink own ik cls).before args s' = true := vx_ot_at hW0 hvm.symm (hgood _ List.mem_cons_self) hk
  have hini' : (Cond.initialized cls).before args s' = true := vx_ot_at hW0 hvm.symm (hgood _ (List.mem_cons_of_mem _ List.mem_cons_self)) hini
  have hU' : vx_Zq Bundle.tN "UNASSIGNED_STACK" Bundle.steD A s' s'.heap := by rw [hhp]; exact vx_Zq.moved hW0.alike (hU.kept hS.2.1)
  have hN' : vx_Zq Bundle.tN "SUPPRESSED_SENTINEL" Bundle.listD A s' s'.heap := by rw [hhp]; exact vx_Zq.moved hW0.alike (hN.kept hS.2.1)
  have h : ∀ w ∈ Bundle.ownAtoms0 own ic cls names, w.before args s' = true := vx_own hat' (vx_isRefq hU'.1) (vx_isRefq hN'.1) hU'.2.word hN'.2.word
  have hown' : s'.vm.findClass own = some m.cls := by rw [hvm]; exact hown
  have hins : (Cond.instantiable cls 6).before args s' = true := h _ (by simp [Bundle.ownAtoms0])
  obtain ⟨vm₁, cX, kX, hfX, hkX, -, -, X₁, st1⟩ := Y.newCold hexec (own := own) (C := cls) (index := ik) (n := 6) hown' hk' hins hini'
    (g := F0 m pc ls rest) rfl (by rw [hb]; exact d0) (Nat.le_refl _) (Nat.le_refl _)
  generalize hT1 : (T.setVm vm₁).pushCell { cls := cX, slots := kX.instanceTypes.map defaultValue, vm := .none } = T1 at X₁ st1
  have hcat : (Value.ref T.heap.size).category = 1 := rfl
  have hcellA : T1.heap[T.heap.size]? = some (freshCell cX kX) := by rw [← hT1]; exact State.heap_pushCell_size _ _
  have d3' : decode c.code (pc + 3) = .ok (.dup, 1) := by rw [hb]; exact d3
  obtain ⟨U, hsteps, hrun, hend, hW, hsame, ce, hce, hO⟩ := X₁.ctorThrow0 hexec htr (own := own) (cls := cls) (names := names) (ic := ic) hown' hcls hnames h (fun x hx => nomatch hx) hfX hkX hcellA (by rw [hhp, hT]; exact Nat.le_refl _)
    (g := { method := m, pc := pc + 4, locals := ls, stack := .ref T.heap.size :: .ref T.heap.size :: rest, locked := none }) rfl hsize rfl rfl (rest := rest) rfl
    (by rw [hb]; exact d4) (by rw [hb]; exact d7) hout hRframes (by simp only [List.map_cons, List.sum_cons, hcat]; omega) hlocks
  obtain ⟨f1, f2⟩ := vx_frame hsame
  rw [hhp] at f1 f2
  have hWs : s.WarmedH U.vm := State.WarmedH.trans hW0 hW
  have hcl : s.vm.findClass cls = some ce.cls := by
    have h9 := hO.cls
    rw [hvm] at h9
    exact h9
  have hall : s.sameButNew ({ U with vm := s.vm } : State) locs mc ms := by
    subst hA
    obtain ⟨e1, e2⟩ := hsame
    rw [State.setFrames_setFrames] at e1
    have h2 : (T.setVm s.vm).sameButNew ({ U with vm := s.vm } : State) [] (0 + 1) (0 + 6) := ⟨e1, e2⟩
    have h3 := X.same.trans h2
    rw [List.append_nil] at h3
    exact h3.mono hc hs
  refine ⟨U, ?_, .threw T.heap.size, hrun, hend, Or.inr ⟨T.heap.size, rfl, cls, ce, locs, hx U hWs.alike f1 (fun q hq => f2 q hq (fun z hz => nomatch hz)), hce, hO.vm, hcl, hWs, hall, hf⟩⟩
  refine st1 _ ?_
  show Steps p.tables e below (T1.setTop { method := m, pc := pc + 3, locals := ls, stack := .ref T.heap.size :: rest, locked := none }) _
  jvm_step X₁.here [X₁.here.top, hexec, d3', Value.category]
  exact hsteps
/-- 'throw new E("text")': new; dup; ldc; invokespecial; athrow -/
theorem vx_throwS {cc : ByteArray} {pc : Nat} (hexec : p.tables.exec = Jvm.exec) (hb : c.code = cc) (hl : l.stackTraces = false) {own cls text : String} {names : List String} {ik is ic mc ms sa : Nat} {A : Nat → Prop}
    (hown : s.vm.findClass own = some m.cls) (hcls : Bundle.fit cls = true) (hnames : ∀ n ∈ names, Bundle.fit n = true)
    (hk : (Cond.classLink own ik cls).before args s = true) (hini : (Cond.initialized cls).before args s = true) (hstr : vk_R own is text sa s) (hat : ∀ w ∈ vx_atS own ic cls names, w.before args s = true)
    (hgood : ∀ w ∈ Cond.classLink own ik cls :: Cond.initialized cls :: vx_atS own ic cls names, vx_ot w = true)
    (hU : vx_Zq Bundle.tN "UNASSIGNED_STACK" Bundle.steD A s s.heap) (hN : vx_Zq Bundle.tN "SUPPRESSED_SENTINEL" Bundle.listD A s s.heap) (hS : va_S A s.heap H locs) (hsize : ls.size = c.maxLocals)
    (d0 : decode cc pc = .ok (.new ik, 3)) (d3 : decode cc (pc + 3) = .ok (.dup, 1)) (d4 : decode cc (pc + 4) = .ok (.ldc is, 2)) (d6 : decode cc (pc + 6) = .ok (.invokespecial ic, 3)) (d9 : decode cc (pc + 9) = .ok (.athrow, 1))
    (hout : ∀ x ∈ c.exceptionTable.toList, covers x (pc + 9) = false)
    (hRframes : names.length + 3 < R.frames) (hRlocals : (rest.map fun v => v.category).sum + (13 * (names.length + 1) + 43) ≤ R.locals) (hRcells : cells + 1 ≤ R.cells) (hRslots : slots + 6 ≤ R.slots) (hlocks : meth.locks = false)
    (hx : ∀ t : State, s.vm.Alike t.vm → H.size ≤ t.heap.size → (∀ q : Nat, q < H.size → t.heap[q]? = H[q]?) → XC cls s t)
    (hf : ∀ z ∈ locs, free z.base) (hc : cells + 1 ≤ mc) (hs : slots + 6 ≤ ms) :
    W p l e R s m args below meth c H locs cells slots (vx_MQ below Qc XC args s mc ms free) (F0 m pc ls rest) := by
  intro T hT X
  have htr : e.platform.stackTraces = false := (show e.platform.stackTraces = l.stackTraces by rw [X.admits.platform]).trans hl
  have Y := vx_rebase X (R' := { frames := R.frames, locals := R.locals, cells := 1, slots := 6 }) (Nat.le_refl _) (Nat.le_refl _) hRcells hRslots
  obtain ⟨s', hA⟩ : ∃ z, z = (T.setVm s.vm).setFrames (.invoking m args :: below) := ⟨_, rfl⟩
  rw [← hA] at Y
  have hvm : s'.vm = s.vm := by rw [hA]; rfl
  have hhp : s'.heap = H := by rw [hA]; exact hT
  have hW0 : s.WarmedH s'.vm := by rw [hvm]; exact State.WarmedH.refl s
  have hat' : ∀ w ∈ vx_atS own ic cls names, w.before args s' = true := fun w hw => vx_ot_at hW0 hvm.symm (hgood w (List.mem_cons_of_mem _ (List.mem_cons_of_mem _ hw))) (hat w hw)
  have hk' : (Cond.classLink own ik cls).before args s' = true := vx_ot_at hW0 hvm.symm (hgood _ List.mem_cons_self) hk
  have hini' : (Cond.initialized cls).before args s' = true := vx_ot_at hW0 hvm.symm (hgood _ (List.mem_cons_of_mem _ List.mem_cons_self)) hini
  have hU' : vx_Zq Bundle.tN "UNASSIGNED_STACK" Bundle.steD A s' s'.heap := by rw [hhp]; exact vx_Zq.moved hW0.alike (hU.kept hS.2.1)
  have hN' : vx_Zq Bundle.tN "SUPPRESSED_SENTINEL" Bundle.listD A s' s'.heap := by rw [hhp]; exact vx_Zq.moved hW0.alike (hN.kept hS.2.1)
  have h : ∀ w ∈ Bundle.ownAtoms own ic cls names, w.before args s' = true := vx_own hat' (vx_isRefq hU'.1) (vx_isRefq hN'.1) hU'.2.word hN'.2.word
  have hown' : s'.vm.findClass own = some m.cls := by rw [hvm]; exact hown
  have hins : (Cond.instantiable cls 6).before args s' = true := h _ (by simp [Bundle.ownAtoms])
  obtain ⟨vm₁, cX, kX, hfX, hkX, -, -, X₁, st1⟩ := Y.newCold hexec (own := own) (C := cls) (index := ik) (n := 6) hown' hk' hins hini'
    (g := F0 m pc ls rest) rfl (by rw [hb]; exact d0) (Nat.le_refl _) (Nat.le_refl _)
  generalize hT1 : (T.setVm vm₁).pushCell { cls := cX, slots := kX.instanceTypes.map defaultValue, vm := .none } = T1 at X₁ st1
  have hcat : (Value.ref T.heap.size).category = 1 := rfl
  have hcellA : T1.heap[T.heap.size]? = some (freshCell cX kX) := by rw [← hT1]; exact State.heap_pushCell_size _ _
  have d3' : decode c.code (pc + 3) = .ok (.dup, 1) := by rw [hb]; exact d3
  have d4' : decode c.code (pc + 4) = .ok (.ldc is, 2) := by rw [hb]; exact d4
  have hstr' : vk_R own is text sa s' := vk_R.warm hW0 hstr
  obtain ⟨U, hsteps, hrun, hend, hW, hsame, ce, hce, hO⟩ := X₁.ctorThrowS hexec htr (own := own) (cls := cls) (names := names) (ic := ic) hown' hcls hnames h (fun x hx => nomatch hx) hfX hkX hcellA (by rw [hhp, hT]; exact Nat.le_refl _) (msg := .ref sa) rfl
    (g := { method := m, pc := pc + 6, locals := ls, stack := .ref sa :: .ref T.heap.size :: .ref T.heap.size :: rest, locked := none }) rfl hsize rfl rfl (rest := rest) rfl
    (by rw [hb]; exact d6) (by rw [hb]; exact d9) hout hRframes (by simp only [List.map_cons, List.sum_cons, hcat]; omega) hlocks
  obtain ⟨f1, f2⟩ := vx_frame hsame
  rw [hhp] at f1 f2
  have hWs : s.WarmedH U.vm := State.WarmedH.trans hW0 hW
  have hcl : s.vm.findClass cls = some ce.cls := by
    have h9 := hO.cls
    rw [hvm] at h9
    exact h9
  have hall : s.sameButNew ({ U with vm := s.vm } : State) locs mc ms := by
    subst hA
    obtain ⟨e1, e2⟩ := hsame
    rw [State.setFrames_setFrames] at e1
    have h2 : (T.setVm s.vm).sameButNew ({ U with vm := s.vm } : State) [] (0 + 1) (0 + 6) := ⟨e1, e2⟩
    have h3 := X.same.trans h2
    rw [List.append_nil] at h3
    exact h3.mono hc hs
  refine ⟨U, ?_, .threw T.heap.size, hrun, hend, Or.inr ⟨T.heap.size, rfl, cls, ce, locs, hx U hWs.alike f1 (fun q hq => f2 q hq (fun z hz => nomatch hz)), hce, hO.vm, hcl, hWs, hall, hf⟩⟩
  refine st1 _ ?_
  show Steps p.tables e below (T1.setTop { method := m, pc := pc + 3, locals := ls, stack := .ref T.heap.size :: rest, locked := none }) _
  jvm_step X₁.here [X₁.here.top, hexec, d3', Value.category]
  exact X₁.ldcString hexec (own := own) (text := text) (index := is) (a := sa) hown' hstr'.1 hstr'.2
    (g := { method := m, pc := pc + 4, locals := ls, stack := .ref T.heap.size :: .ref T.heap.size :: rest, locked := none }) rfl d4' _ hsteps
/-- 'throw new E("text")', the text by a wide index -/
theorem vx_throwSW {cc : ByteArray} {pc : Nat} (hexec : p.tables.exec = Jvm.exec) (hb : c.code = cc) (hl : l.stackTraces = false) {own cls text : String} {names : List String} {ik is ic mc ms sa : Nat} {A : Nat → Prop}
    (hown : s.vm.findClass own = some m.cls) (hcls : Bundle.fit cls = true) (hnames : ∀ n ∈ names, Bundle.fit n = true)
    (hk : (Cond.classLink own ik cls).before args s = true) (hini : (Cond.initialized cls).before args s = true) (hstr : vk_R own is text sa s) (hat : ∀ w ∈ vx_atS own ic cls names, w.before args s = true)
    (hgood : ∀ w ∈ Cond.classLink own ik cls :: Cond.initialized cls :: vx_atS own ic cls names, vx_ot w = true)
    (hU : vx_Zq Bundle.tN "UNASSIGNED_STACK" Bundle.steD A s s.heap) (hN : vx_Zq Bundle.tN "SUPPRESSED_SENTINEL" Bundle.listD A s s.heap) (hS : va_S A s.heap H locs) (hsize : ls.size = c.maxLocals)
    (d0 : decode cc pc = .ok (.new ik, 3)) (d3 : decode cc (pc + 3) = .ok (.dup, 1)) (d4 : decode cc (pc + 4) = .ok (.ldc_w is, 3)) (d7 : decode cc (pc + 7) = .ok (.invokespecial ic, 3)) (d10 : decode cc (pc + 10) = .ok (.athrow, 1))
    (hout : ∀ x ∈ c.exceptionTable.toList, covers x (pc + 10) = false)
    (hRframes : names.length + 3 < R.frames) (hRlocals : (rest.map fun v => v.category).sum + (13 * (names.length + 1) + 43) ≤ R.locals) (hRcells : cells + 1 ≤ R.cells) (hRslots : slots + 6 ≤ R.slots) (hlocks : meth.locks = false)
    (hx : ∀ t : State, s.vm.Alike t.vm → H.size ≤ t.heap.size → (∀ q : Nat, q < H.size → t.heap[q]? = H[q]?) → XC cls s t)
    (hf : ∀ z ∈ locs, free z.base) (hc : cells + 1 ≤ mc) (hs : slots + 6 ≤ ms) :
    W p l e R s m args below meth c H locs cells slots (vx_MQ below Qc XC args s mc ms free) (F0 m pc ls rest) := by
  intro T hT X
  have htr : e.platform.stackTraces = false := (show e.platform.stackTraces = l.stackTraces by rw [X.admits.platform]).trans hl
  have Y := vx_rebase X (R' := { frames := R.frames, locals := R.locals, cells := 1, slots := 6 }) (Nat.le_refl _) (Nat.le_refl _) hRcells hRslots
  obtain ⟨s', hA⟩ : ∃ z, z = (T.setVm s.vm).setFrames (.invoking m args :: below) := ⟨_, rfl⟩
  rw [← hA] at Y
  have hvm : s'.vm = s.vm := by rw [hA]; rfl
  have hhp : s'.heap = H := by rw [hA]; exact hT
  have hW0 : s.WarmedH s'.vm := by rw [hvm]; exact State.WarmedH.refl s
  have hat' : ∀ w ∈ vx_atS own ic cls names, w.before args s' = true := fun w hw => vx_ot_at hW0 hvm.symm (hgood w (List.mem_cons_of_mem _ (List.mem_cons_of_mem _ hw))) (hat w hw)
  have hk' : (Cond.classLink own ik cls).before args s' = true := vx_ot_at hW0 hvm.symm (hgood _ List.mem_cons_self) hk
  have hini' : (Cond.initialized cls).before args s' = true := vx_ot_at hW0 hvm.symm (hgood _ (List.mem_cons_of_mem _ List.mem_cons_self)) hini
  have hU' : vx_Zq Bundle.tN "UNASSIGNED_STACK" Bundle.steD A s' s'.heap := by rw [hhp]; exact vx_Zq.moved hW0.alike (hU.kept hS.2.1)
  have hN' : vx_Zq Bundle.tN "SUPPRESSED_SENTINEL" Bundle.listD A s' s'.heap := by rw [hhp]; exact vx_Zq.moved hW0.alike (hN.kept hS.2.1)
  have h : ∀ w ∈ Bundle.ownAtoms own ic cls names, w.before args s' = true := vx_own hat' (vx_isRefq hU'.1) (vx_isRefq hN'.1) hU'.2.word hN'.2.word
  have hown' : s'.vm.findClass own = some m.cls := by rw [hvm]; exact hown
  have hins : (Cond.instantiable cls 6).before args s' = true := h _ (by simp [Bundle.ownAtoms])
  obtain ⟨vm₁, cX, kX, hfX, hkX, -, -, X₁, st1⟩ := Y.newCold hexec (own := own) (C := cls) (index := ik) (n := 6) hown' hk' hins hini'
    (g := F0 m pc ls rest) rfl (by rw [hb]; exact d0) (Nat.le_refl _) (Nat.le_refl _)
  generalize hT1 : (T.setVm vm₁).pushCell { cls := cX, slots := kX.instanceTypes.map defaultValue, vm := .none } = T1 at X₁ st1
  have hcat : (Value.ref T.heap.size).category = 1 := rfl
  have hcellA : T1.heap[T.heap.size]? = some (freshCell cX kX) := by rw [← hT1]; exact State.heap_pushCell_size _ _
  have d3' : decode c.code (pc + 3) = .ok (.dup, 1) := by rw [hb]; exact d3
  have d4' : decode c.code (pc + 4) = .ok (.ldc_w is, 3) := by rw [hb]; exact d4
  have hstr' : vk_R own is text sa s' := vk_R.warm hW0 hstr
  obtain ⟨U, hsteps, hrun, hend, hW, hsame, ce, hce, hO⟩ := X₁.ctorThrowS hexec htr (own := own) (cls := cls) (names := names) (ic := ic) hown' hcls hnames h (fun x hx => nomatch hx) hfX hkX hcellA (by rw [hhp, hT]; exact Nat.le_refl _) (msg := .ref sa) rfl
    (g := { method := m, pc := pc + 7, locals := ls, stack := .ref sa :: .ref T.heap.size :: .ref T.heap.size :: rest, locked := none }) rfl hsize rfl rfl (rest := rest) rfl
    (by rw [hb]; exact d7) (by rw [hb]; exact d10) hout hRframes (by simp only [List.map_cons, List.sum_cons, hcat]; omega) hlocks
  obtain ⟨f1, f2⟩ := vx_frame hsame
  rw [hhp] at f1 f2
  have hWs : s.WarmedH U.vm := State.WarmedH.trans hW0 hW
  have hcl : s.vm.findClass cls = some ce.cls := by
    have h9 := hO.cls
    rw [hvm] at h9
    exact h9
  have hall : s.sameButNew ({ U with vm := s.vm } : State) locs mc ms := by
    subst hA
    obtain ⟨e1, e2⟩ := hsame
    rw [State.setFrames_setFrames] at e1
    have h2 : (T.setVm s.vm).sameButNew ({ U with vm := s.vm } : State) [] (0 + 1) (0 + 6) := ⟨e1, e2⟩
    have h3 := X.same.trans h2
    rw [List.append_nil] at h3
    exact h3.mono hc hs
  refine ⟨U, ?_, .threw T.heap.size, hrun, hend, Or.inr ⟨T.heap.size, rfl, cls, ce, locs, hx U hWs.alike f1 (fun q hq => f2 q hq (fun z hz => nomatch hz)), hce, hO.vm, hcl, hWs, hall, hf⟩⟩
  refine st1 _ ?_
  show Steps p.tables e below (T1.setTop { method := m, pc := pc + 3, locals := ls, stack := .ref T.heap.size :: rest, locked := none }) _
  jvm_step X₁.here [X₁.here.top, hexec, d3', Value.category]
  exact X₁.ldcStringW hexec (own := own) (text := text) (index := is) (a := sa) hown' hstr'.1 hstr'.2
    (g := { method := m, pc := pc + 4, locals := ls, stack := .ref T.heap.size :: .ref T.heap.size :: rest, locked := none }) rfl d4' _ hsteps
end Ends
section Bodies
variable {l : Launch}
theorem vx_ofW {y : MethodName} {ws ws' : List Cond} {rm : Room} {Pc : Array Value → State → Prop} {Qc : Array Value → State → Outcome → State → Prop} {XC : String → State → State → Prop} {mc ms : Nat} {free : Addr → Prop} {cc : ByteArray} {maxL : Nat} {ret : Option FieldType}
    (hy : plainName y.cls = true) (hw : ws = Cond.code y cc maxL ret :: ws')
    (body : ∀ p e s m args below meth c s₁, BodyLoose p l y (headSpec ws rm) cc maxL ret e s m args below meth c s₁ → c.maxLocals = maxL → (∀ x ∈ c.exceptionTable.toList, False) → Pc args s →
      W p l e (headSpec ws rm).room s m args below meth c s.heap [] 0 0 (vx_MQ below Qc XC args s mc ms free) (entryFrame m args maxL)) : vx_Met l y ws rm Pc Qc XC mc ms free := by
  refine MetFree.of_bodyS (code := cc) (maxLocals := maxL) (ret := ret) hy ?_ ?_
  · intro args s m h hn
    obtain ⟨meth, c, h1, h2, h3, h4, h5, h6, -, -⟩ := Cond.code_spec hn (atoms_spec (ws := ws) h _ (by rw [hw]; exact List.mem_cons_self))
    exact ⟨meth, c, h1, h2, h3, h4, h5, h6⟩
  · intro p e s m args below meth c s₁ B hml hP _
    have hh0 : s₁.heap = s.heap := by rw [B.state]; rfl
    have ht : ∀ x ∈ c.exceptionTable.toList, False := by
      obtain ⟨meth9, c9, h1, h2, -, -, -, -, h7, -⟩ := Cond.code_spec B.named (atoms_spec (ws := ws) B.pre _ (by rw [hw]; exact List.mem_cons_self))
      cases Option.some.inj (h1.symm.trans B.method)
      cases Option.some.inj (h2.symm.trans (Stand.of_body B).code)
      intro x hx
      rw [Array.isEmpty_iff.mp h7] at hx
      cases hx
    obtain ⟨t, a1, o, b1, b2, b3⟩ := body p e s m args below meth c s₁ B hml ht hP s₁ hh0 (Stand.of_body B)
    exact ⟨t, o, a1, b1, b2, b3⟩
/-- the table of a body with handlers -/
theorem vx_table {p : Program} {x y : MethodName} {S : Spec} {cc bytes : ByteArray} {maxL maxL' : Nat} {ret ret' : Option FieldType} {e : Env} {s s₁ : State} {m : MethodId} {args : Array Value} {below : List Frame} {meth : Method} {c : Code} {hh : List (Nat × Nat × Nat × Nat)}
    (B : BodyLoose p l y S cc maxL ret e s m args below meth c s₁) (h : (Cond.codeWith y bytes maxL' ret' hh).before args s = true) : c.exceptionTable.toList = tableOf hh := by
  obtain ⟨m9, meth9, c9, hn9, h1, h2, -, -, h6, -⟩ := Cond.codeWith_spec h
  cases Option.some.inj (hn9.symm.trans B.named)
  cases Option.some.inj (h1.symm.trans B.method)
  cases Option.some.inj (h2.symm.trans (Stand.of_body B).code)
  rw [← h6, table_eq]
end Bodies
end VXA
/-! ===== END ===== -/
/-! ===== BEGIN a static call of a method with an exception table ===== -/
section VXS
variable {p : Program} {l : Launch} {e : Env} {R : Room} {s : State} {m : MethodId} {args : Array Value} {below : List Frame} {meth : Method} {c : Code} {T : State} {H : Heap} {locs : List Loc} {cells slots : Nat}
abbrev vx_CSW (R : Room) (s : State) (args : Array Value) (own : String) (index : Nat) (y : MethodName) (bytes : ByteArray) (maxL : Nat) (ret : Option FieldType) (hh : List (Nat × Nat × Nat × Nat)) (ws : List Cond) (rm : Room) (mc ms n : Nat) : Prop :=
  (rm.cells = mc ∧ rm.slots = ms ∧ rm.frames + 1 ≤ R.frames ∧ 8 + (maxL + 11) + rm.locals ≤ R.locals ∧ (∀ w ∈ ws, ∀ (a' : Array Value) (U : State), s.WarmedH U.vm → w.before a' U = true) ∧ Cond.codeWith y bytes maxL ret hh ∈ ws) ∧
  (Cond.codeWith y bytes maxL ret hh).before args s = true ∧ (Cond.initialized y.cls).before args s = true ∧ (y.cls ≠ "java/lang/invoke/MethodHandle" ∧ y.cls ≠ "java/lang/invoke/VarHandle") ∧
  (∀ sig, parseMethodDescriptor y.desc = some sig → n = sig.parameters.length) ∧ (Cond.methodLink own index y).before args s = true ∧ (Cond.static y).before args s = true
theorem vx_cwSW {own : String} {index maxL mc ms : Nat} {y : MethodName} {bytes : ByteArray} {ret : Option FieldType} {hh : List (Nat × Nat × Nat × Nat)} {Ts ws ws' : List Cond} {rm : Room} (n : Nat) (ht : ∀ w ∈ Ts, w.before args s = true) (hT : GoodIn Ts (va_wsS own index y ws)) (hw : ws = Cond.codeWith y bytes maxL ret hh :: ws') (hrc : rm.cells = mc) (hrs : rm.slots = ms)
    (hd : y.cls ≠ "java/lang/invoke/MethodHandle" ∧ y.cls ≠ "java/lang/invoke/VarHandle" ∧ (parseMethodDescriptor y.desc).map (fun d => d.parameters.length) = some n) (hR : rm.frames + 1 ≤ R.frames ∧ 8 + (maxL + 11) + rm.locals ≤ R.locals) :
    vx_CSW R s args own index y bytes maxL ret hh ws rm mc ms n := by
  have ok : ∀ w ∈ va_wsS own index y ws, w.before args s = true := fun w h => ht w (hT w h).1
  have hG : GoodIn Ts ws := fun w h => hT w (by unfold va_wsS; exact List.mem_append_right _ h)
  have hc : Cond.codeWith y bytes maxL ret hh ∈ ws := by rw [hw]; exact List.mem_cons_self
  refine ⟨⟨hrc, hrs, hR.1, hR.2, pay_in ht hG, hc⟩, ht _ (hG _ hc).1, ok _ (by simp [va_wsS]), ⟨hd.1, hd.2.1⟩, fun sig h => ?_, ok _ (by simp [va_wsS]), ok _ (by simp [va_wsS])⟩
  have h2 := hd.2.2
  rw [h] at h2
  exact (Option.some.inj h2).symm
theorem vx_callSW (X : Stand p l e R s m args below meth c T locs cells slots) (hexec : p.tables.exec = Jvm.exec) {own : String} {index : Nat} {y : MethodName} {bytes : ByteArray} {maxL : Nat} {ret : Option FieldType} {hh : List (Nat × Nat × Nat × Nat)}
    (hown : s.vm.findClass own = some m.cls) (hlink : (Cond.methodLink own index y).before args s = true) (hstat : (Cond.static y).before args s = true) (hinit : (Cond.initialized y.cls).before args s = true)
    (hcode : (Cond.codeWith y bytes maxL ret hh).before args s = true) (hy : y.cls ≠ "java/lang/invoke/MethodHandle" ∧ y.cls ≠ "java/lang/invoke/VarHandle")
    {W9 : Nat} {Pre : Pt → Array Value → Prop} {Post : Pt → Array Value → Option Value → Pt → Prop} (hK : Back l R p e below s args y 3 W9 Pre Post)
    {g : JFrame} (hg : g.method = m) (hsize : g.locals.size = c.maxLocals) {argsL rest : List Value} (hlen : ∀ sig, parseMethodDescriptor y.desc = some sig → argsL.length = sig.parameters.length)
    (hstack : g.stack = argsL.reverse ++ rest) (hW : 2 * g.monitorRoom + (rest.map fun v => v.category).sum ≤ W9) (hdg : decode c.code g.pc = .ok (.invokestatic index, 3))
    (hpre : ∀ vm₁, s.WarmedH vm₁ → Pre ⟨T.setVm vm₁, locs, cells, slots⟩ argsL.toArray) :
    ∃ (v : Option Value) (vm₁ : Vm) (B : Pt), s.WarmedH vm₁ ∧ Stand p l e R s m args below meth c B.U B.locs B.cells B.slots ∧ Post ⟨T.setVm vm₁, locs, cells, slots⟩ argsL.toArray v B ∧
      ∀ target, Steps p.tables e below (B.U.setTop { g with pc := g.pc + 3, stack := v.toList ++ rest }) target → Steps p.tables e below (T.setTop g) target := by
  obtain ⟨mk, methM, cM, hnamed, hmethM, -, -, -, -, -, -, hsigM⟩ := Cond.codeWith_spec hcode
  have hstatic : methM.isStatic = true := Cond.static_spec hnamed hmethM hstat
  obtain ⟨kP, hkP, -⟩ := className_of_methodNamed hnamed
  have hinitP : kP.init = .initialized := Cond.initialized_spec (findClass_of_methodNamed hnamed) hkP hinit
  obtain ⟨vm₁, X₁, hstep₁⟩ := X.invokestatic hexec hown hlink hnamed hmethM hstatic hkP hinitP hy (g := g) hg (argsL := argsL) (rest := rest) (hlen _ hsigM) hstack hdg
  obtain ⟨v, B, X', hpost, hsteps⟩ := hK m meth c ⟨T.setVm vm₁, locs, cells, slots⟩ { g with stack := rest } (.invokestatic index) mk argsL.toArray X₁ hg hsize hdg hW (X₁.named hnamed) (hpre vm₁ X₁.warmed)
  exact ⟨v, vm₁, B, X₁.warmed, X', hpost, fun target h => hstep₁ _ fun acts => by rw [doInvoke_state]; exact hsteps.trans h⟩
theorem vx_runSW {y : MethodName} {bytes cc : ByteArray} {maxL nL mc ms n index : Nat} {ret : Option FieldType} {hh : List (Nat × Nat × Nat × Nat)} {ws : List Cond} {rm : Room} {Pc : Array Value → State → Prop} {Qc : Array Value → State → Outcome → State → Prop} {free : Addr → Prop} {Ts : List Cond} {own : String} {As rest : List Value} {g : JFrame}
    (S : CallFix p m c cc nL s args Ts own) (hM : Met l y ws rm Pc Qc mc ms free) (cw : vx_CSW R s args own index y bytes maxL ret hh ws rm mc ms n) (hp : PreS s H Pc As)
    (hg : g.method = m) (hn : As.length = n) (hsize : g.locals.size = nL) (hstack : g.stack = As.reverse ++ rest) (hW : 2 * g.monitorRoom + (rest.map fun v => v.category).sum ≤ 8) (hdg : decode cc g.pc = .ok (.invokestatic index, 3)) (hf : cells + mc ≤ R.cells ∧ slots + ms ≤ R.slots) :
    va_Run p l e R s m args below meth c H locs cells slots mc ms g rest (Qc As.toArray) (free) := by
  obtain ⟨⟨hrc, hrs, hfr, hlo, hws, hcw⟩, hcode, hini, hy, hlen, hl, hstt⟩ := cw
  have hK : Back l R p e below s args y 3 8 (PreOf R mc ms Pc) (PostOf Qc mc ms free) := va_backW (hh := hh) (bytes := bytes) (maxL := maxL) (ret := ret) hM hp.1 hrc hrs hfr hlo hws hcw (fun a' U hW => word_at hW (Or.inl (by first | rfl | simp [Cond.onTables, Cond.keeps, Cond.steady])) hini)
  obtain ⟨hx, hb, hml, ho, -⟩ := S
  intro T hT X
  obtain ⟨v, vm₁, ⟨U', l2, c2, s2⟩, hW₁, X', ⟨g', mk, t, L, e1, e2, hq, h1, hL, h2, h3⟩, st⟩ := vx_callSW X hx (hh := hh) (bytes := bytes) (maxL := maxL) (ret := ret) ho hl hstt hini hcode hy hK hg (hsize.trans hml.symm) (argsL := As) (rest := rest) (fun sig h => hn.trans (hlen sig h)) hstack hW (by rw [hb]; exact hdg)
    (fun vm₁ hW₁ => ⟨hf.1, hf.2, hp.2 (T.setVm vm₁) hT hW₁⟩)
  dsimp only [Pt.U, Pt.locs, Pt.cells, Pt.slots] at X' e1 e2 h1 h2 h3 st
  subst h1; subst h2; subst h3
  exact ⟨v, (T.setVm vm₁).calling g' mk As.toArray, t, U', L, hT, X', hL, e1, e2, hq, st⟩
/-- not caught here, past rows that name other classes: it goes on to the caller -/
theorem vx_outP {p : Program} {l : Launch} {e : Env} {R : Room} {s : State} {m : MethodId} {args : Array Value} {below : List Frame} {meth : Method} {c : Code} {H : Heap} {locs : List Loc} {cells slots : Nat} {free : Addr → Prop} {ls : Array Slot} {rest : List Value} {Qc : Array Value → State → Outcome → State → Prop} {XC : String → State → State → Prop}
    {pc : Nat} {own E : String} {ce : Cell} {q : Addr} {mc ms : Nat} (hown : s.vm.findClass own = some m.cls) (hlocks : meth.locks = false)
    (hpass : ∀ z ∈ c.exceptionTable.toList, covers z pc = false ∨ (z.catchType ≠ 0 ∧ ∃ nm : String, (Cond.classLink own z.catchType nm).before args s = true ∧ va_Nc E nm s)) (hcell : H[q]? = some ce) (hv : ce.vm = .none) (hcl : s.vm.findClass E = some ce.cls)
    (hx : ∀ t : State, t.heap = H → s.vm.Alike t.vm → XC E s t) (hf : ∀ z ∈ locs, free z.base) (hc : cells ≤ mc) (hs : slots ≤ ms) :
    vx_W p l e R s m args below meth c H locs cells slots (vx_MQ below Qc XC args s mc ms free) (F0 m pc ls rest) q := by
  intro T hT X
  have hpl : e.platform.magicAccessors = ({} : Platform).magicAccessors := by rw [X.admits.platform]
  obtain ⟨vm', hW', X', st⟩ := X.outThrough hlocks q (g := F0 m pc ls rest) rfl rfl rfl (cell := ce) (by rw [hT]; exact hcell) (by rw [hv]; rfl)
    (by obtain ⟨k9, h9, -⟩ := Vm.findClass_spec hcl; exact ⟨k9, h9⟩) (fun z hz => by
      rcases hpass z hz with h | ⟨hz0, nm, hl1, hn1⟩
      · exact Or.inl h
      · obtain ⟨c6, hc6, hcl6⟩ := Cond.classLink_spec hown hl1 e.platform hpl
        obtain ⟨a8, b8, h1, h2, h3⟩ := hn1
        cases Option.some.inj (h1.symm.trans hcl)
        cases Option.some.inj (h2.symm.trans hc6)
        exact Or.inr ⟨hz0, _, hcl6, h3⟩)
  obtain ⟨g₀, hfr⟩ := X'.frames_eq
  have hcell9 : ((T.setVm vm').setFrames (.throwing q :: below)).heap[q]? = some ce := by
    show T.heap[q]? = some ce
    rw [hT]; exact hcell
  have hend : Ended ((T.setVm vm').setFrames (.throwing q :: below)) below (.threw q) := State.frames_setFrames _ (State.cur_lt_of_frames hfr)
  refine ⟨(T.setVm vm').setFrames (.throwing q :: below), ?_, .threw q, X'.here.running, hend, Or.inr ⟨q, rfl, E, ce, locs, hx _ hT (X'.ends _).1.alike, hcell9, hv, hcl, (X'.ends _).1, (X'.ends _).2.mono hc hs, hf⟩⟩
  rw [X.pushThrowing_eq]
  exact st
/-- a thing of a world lies in the heap -/
theorem vx_lt {D : va_G} {cl : List vw_C} {ws : va_W} {H1 : Heap} (h : va_P D cl ws H1) {k : Nat} {q : Nat × va_E} (hk : ws[k]? = some q) : q.1 < H1.size := (h k q hk).lt
end VXS
/-! ===== END ===== -/
/-! ===== BEGIN methods with a table of their own: called by a name, returning or throwing ===== -/
section VXH
/-! vx_backW, vx_callVX, vx_callSX, vx_callVW, vx_runVW, vx_runVX, vx_runSX, vx_ofWH follow the same proofs as their sisters above (Free/Laws.lean, Shelf42/LK1.lean); vx_outP calls Shelf42/NT130.lean (outThrough). -/
section
variable {l : Launch} {R : Room} {p : Program} {e : Env} {below : List Frame} {s : State} {sargs : Array Value} {y : MethodName} {len W9 : Nat}
theorem vx_backW {ws : List Cond} {rm : Room} {Pc : Array Value → State → Prop} {Qc : Array Value → State → Outcome → State → Prop} {XC : String → State → State → Prop} {mc ms : Nat} {free : Addr → Prop} {bytes : ByteArray} {maxL : Nat} {ret : Option FieldType} {hh : List (Nat × Nat × Nat × Nat)}
    (hM : vx_Met l y ws rm Pc Qc XC mc ms free) (hblind : FrameBlind Pc) (hrc : rm.cells = mc) (hrs : rm.slots = ms)
    (hframes : rm.frames + 1 ≤ R.frames) (hlocals : W9 + (maxL + 11) + rm.locals ≤ R.locals)
    (hws : ∀ w ∈ ws, ∀ a' U, s.WarmedH U.vm → w.before a' U = true) (hcode : Cond.codeWith y bytes maxL ret hh ∈ ws) (hinit : ∀ a' U, s.WarmedH U.vm → (Cond.initialized y.cls).before a' U = true) :
    vx_Back l R p e below s sargs y len W9 (PreOf R mc ms Pc) (PostOf Qc mc ms free) (vx_Post XC mc ms free) := by
  intro m meth c A g ig mk a X hg hsize hdg hW hn hp
  have h1 : (headSpec ws rm).pre.before a A.U = true := atoms_intro fun w hw => hws w hw _ _ X.warmed
  have h2 : (Cond.codeWith y bytes maxL ret hh).before a A.U = true := hws _ hcode _ _ X.warmed
  have h3 : (Cond.initialized y.cls).before a A.U = true := hinit _ _ X.warmed
  have h4 : A.cells + (headSpec ws rm).room.cells ≤ R.cells := by rw [show (headSpec ws rm).room.cells = mc from hrc]; exact hp.1
  have h5 : A.slots + (headSpec ws rm).room.slots ≤ R.slots := by rw [show (headSpec ws rm).room.slots = ms from hrs]; exact hp.2.1
  have hPc : Pc a (A.U.calling g mk a) := hblind _ _ _ _ hp.2.2
  obtain ⟨U, Ls, c0, s0⟩ := A
  dsimp only [Pt.U, Pt.locs, Pt.cells, Pt.slots] at h1 h2 h3 h4 h5 X hn hPc ⊢
  obtain ⟨m9, methY, cY, hn9, hmY, hcY, -, hlY, -⟩ := Cond.codeWith_spec h2
  cases Option.some.inj (hn9.symm.trans hn)
  obtain ⟨kY, hkY, -⟩ := className_of_methodNamed hn
  have hinitY : kY.init = .initialized := Cond.initialized_spec (findClass_of_methodNamed hn) hkY h3
  have h : At U g.method c below := by rw [hg]; exact X.here
  have hlocals9 : W9 + (maxL + 11) + (headSpec ws rm).room.locals ≤ R.locals := hlocals
  have happ : (headSpec ws rm).appliesLoose y e.platform (U.calling g mk a) = true :=
    Spec.appliesLoose_calling (g := g) h hdg hn hkY hinitY
      (X.room_calling (g := g) (R' := (headSpec ws rm).room) hsize hmY hcY hframes (by rw [hlY]; omega) h4 h5) h1
  obtain ⟨mid, hmid⟩ := h.above
  have hfr : (U.setTop g).frames = (.java g :: mid) ++ below := by rw [State.frames_setTop' g h.top, hmid]; rfl
  obtain ⟨o, s₂, hsteps, -, hend, hq⟩ := Steps.callFree hM p X.admits X.cas X.clock (acts := []) hfr happ hPc trivial
  have hq' : vx_Q Qc XC mc ms free a (U.calling g mk a) o s₂ := hq
  rw [State.frames_setTop' g h.top] at hend
  obtain ⟨g₀, hg0⟩ := Option.isSome_iff_exists.mp h.top
  obtain ⟨r, hr⟩ := State.topJava?_eq_some.mp hg0
  have hr' : (({ U with heap := s₂.heap, slotsUsed := s₂.slotsUsed } : State).setVm s₂.vm).frames = .java g₀ :: r := hr
  rcases hq' with ⟨hqc, L, hfe, hL⟩ | ⟨q, rfl, E, ce, L, hx, hce, hcv, hcl, hW₂, hsm, hL⟩
  · obtain ⟨⟨v, rfl⟩, hW₂, e2, q2, q3, q4, q5, q6⟩ := id hfe
    have e3 : s₂ = ({ (U.calling g mk a).setFrames s₂.frames with heap := s₂.heap, slotsUsed := s₂.slotsUsed } : State).setVm s₂.vm := by
      have : s₂ = ({ s₂ with vm := (U.calling g mk a).vm } : State).setVm s₂.vm := rfl
      rw [e2] at this
      exact this
    obtain ⟨c₂, i₂, len₂, hc₂, hd₂, hf₂⟩ := hend
    have hW' : U.WarmedH s₂.vm := hW₂
    have hcc : c₂ = c := by
      have h1 : s₂.code? g.method = U.code? g.method := by
        rw [State.code?_eq, State.code?_eq, hW'.alike.method?]
      exact Option.some.inj (hc₂.symm.trans (h1.trans h.code))
    subst hcc
    have hlen : len₂ = len := by rw [hdg] at hd₂; cases hd₂; rfl
    subst hlen
    have hs₂ : s₂ = (({ U with heap := s₂.heap, slotsUsed := s₂.slotsUsed } : State).setVm s₂.vm).setTop { g with pc := g.pc + len₂, stack := v.toList ++ g.stack } := by
      refine e3.trans ?_
      rw [hf₂, State.calling_eq h.top, State.setFrames_setFrames, State.setTop_of_frames _ hr', hr]
      rfl
    have hsame : U.sameButNew ({ U with heap := s₂.heap, slotsUsed := s₂.slotsUsed } : State) L mc ms := by
      refine ⟨?_, q2, q3, q4, q5, q6⟩
      obtain ⟨t, ht, -⟩ := State.frames_cons hr
      show ({ U with heap := s₂.heap, slotsUsed := s₂.slotsUsed } : State) = { U.setFrames U.frames with heap := s₂.heap, slotsUsed := s₂.slotsUsed }
      rw [State.setFrames_self ht]
    subst hg
    refine Or.inl ⟨v, ⟨(({ U with heap := s₂.heap, slotsUsed := s₂.slotsUsed } : State).setVm s₂.vm), Ls ++ L, c0 + mc, s0 + ms⟩,
      ⟨X.admits, X.cas, X.clock, X.frames, X.room, X.hears, X.method, X.code, (X.here.setHeapUsed s₂.heap s₂.slotsUsed).setVm hW'.alike, X.tail, State.WarmedH.trans X.warmed hW', X.limits, X.bytes, X.same.trans (hsame.setVm s.vm)⟩,
      ⟨g, mk, s₂, L, rfl, rfl, hqc, rfl, hL, rfl, rfl⟩, ?_⟩
    show Steps p.tables e below _ ((({ U with heap := s₂.heap, slotsUsed := s₂.slotsUsed } : State).setVm s₂.vm).setTop { g with pc := g.pc + len₂, stack := v.toList ++ g.stack })
    rw [← hs₂]
    exact hsteps
  · obtain ⟨e2, q2, q3, q4, q5, q6⟩ := id hsm
    have e3 : s₂ = ({ (U.calling g mk a).setFrames s₂.frames with heap := s₂.heap, slotsUsed := s₂.slotsUsed } : State).setVm s₂.vm := by
      have : s₂ = ({ s₂ with vm := (U.calling g mk a).vm } : State).setVm s₂.vm := rfl
      rw [e2] at this
      exact this
    have hf₂ : s₂.frames = .throwing q :: .java g :: U.frames.tail := hend
    have hW' : U.WarmedH s₂.vm := hW₂
    have hs₂ : s₂ = ((({ U with heap := s₂.heap, slotsUsed := s₂.slotsUsed } : State).setVm s₂.vm).setTop g).pushFrame (.throwing q) := by
      refine e3.trans ?_
      rw [hf₂, State.calling_eq h.top, State.setFrames_setFrames, State.pushFrame, State.frames_setTop _ hr', State.setTop_of_frames _ hr', State.setFrames_setFrames, hr]
      rfl
    have hsame : U.sameButNew ({ U with heap := s₂.heap, slotsUsed := s₂.slotsUsed } : State) L mc ms := by
      refine ⟨?_, q2, q3, q4, q5, q6⟩
      obtain ⟨t, ht, -⟩ := State.frames_cons hr
      show ({ U with heap := s₂.heap, slotsUsed := s₂.slotsUsed } : State) = { U.setFrames U.frames with heap := s₂.heap, slotsUsed := s₂.slotsUsed }
      rw [State.setFrames_self ht]
    subst hg
    refine Or.inr ⟨q, ⟨(({ U with heap := s₂.heap, slotsUsed := s₂.slotsUsed } : State).setVm s₂.vm), Ls ++ L, c0 + mc, s0 + ms⟩,
      ⟨X.admits, X.cas, X.clock, X.frames, X.room, X.hears, X.method, X.code, (X.here.setHeapUsed s₂.heap s₂.slotsUsed).setVm hW'.alike, X.tail, State.WarmedH.trans X.warmed hW', X.limits, X.bytes, X.same.trans (hsame.setVm s.vm)⟩,
      ⟨g, mk, s₂, L, E, ce, rfl, rfl, hx, hce, hcv, hcl, rfl, hL, rfl, rfl⟩, ?_⟩
    show Steps p.tables e below _ (((({ U with heap := s₂.heap, slotsUsed := s₂.slotsUsed } : State).setVm s₂.vm).setTop g).pushFrame (.throwing q))
    rw [← hs₂]
    exact hsteps
end
variable {p : Program} {l : Launch} {e : Env} {R : Room} {s : State} {m : MethodId} {args : Array Value} {below : List Frame} {meth : Method} {c : Code} {T : State} {H : Heap} {locs : List Loc} {cells slots : Nat}
theorem vx_callVX (X : Stand p l e R s m args below meth c T locs cells slots) (hexec : p.tables.exec = Jvm.exec) {own C : String} {index : Nat} {y : MethodName} {bytes : ByteArray} {maxL : Nat} {ret : Option FieldType} {hh : List (Nat × Nat × Nat × Nat)}
    (hown : s.vm.findClass own = some m.cls) (hlink : (Cond.methodLink own index y).before args s = true) (hinst : (Cond.instanceMethod y).before args s = true) (hsel : (Cond.selects C y y).before args s = true)
    (hcode : (Cond.codeWith y bytes maxL ret hh).before args s = true) (hy : y.cls ≠ "java/lang/invoke/MethodHandle" ∧ y.cls ≠ "java/lang/invoke/VarHandle")
    {W9 : Nat} {Pre : Pt → Array Value → Prop} {Post : Pt → Array Value → Option Value → Pt → Prop} {PostX : Pt → Array Value → Addr → Pt → Prop} (hK : vx_Back l R p e below s args y 3 W9 Pre Post PostX)
    {b : Addr} {cellB : Cell} (hcell : T.heap[b]? = some cellB) (hobj : cellB.vm.isStatics = false) (hcls : s.vm.findClass C = some cellB.cls)
    {g : JFrame} (hg : g.method = m) (hsize : g.locals.size = c.maxLocals) {argsL rest : List Value} (hlen : ∀ sig, parseMethodDescriptor y.desc = some sig → argsL.length = sig.parameters.length)
    (hstack : g.stack = argsL.reverse ++ .ref b :: rest) (hW : 2 * g.monitorRoom + (rest.map fun v => v.category).sum ≤ W9) (hdg : decode c.code g.pc = .ok (.invokevirtual index, 3))
    (hpre : ∀ vm₁, s.WarmedH vm₁ → Pre ⟨T.setVm vm₁, locs, cells, slots⟩ (Value.ref b :: argsL).toArray) :
    (∃ (v : Option Value) (vm₁ : Vm) (B : Pt), s.WarmedH vm₁ ∧ Stand p l e R s m args below meth c B.U B.locs B.cells B.slots ∧ Post ⟨T.setVm vm₁, locs, cells, slots⟩ (Value.ref b :: argsL).toArray v B ∧
      ∀ target, Steps p.tables e below (B.U.setTop { g with pc := g.pc + 3, stack := v.toList ++ rest }) target → Steps p.tables e below (T.setTop g) target) ∨
    (∃ (q : Addr) (vm₁ : Vm) (B : Pt), s.WarmedH vm₁ ∧ Stand p l e R s m args below meth c B.U B.locs B.cells B.slots ∧ PostX ⟨T.setVm vm₁, locs, cells, slots⟩ (Value.ref b :: argsL).toArray q B ∧
      Steps p.tables e below (T.setTop g) ((B.U.setTop { g with stack := rest }).pushFrame (.throwing q))) := by
  obtain ⟨mk, methM, hnamed, hmethM, hstM, habM⟩ := Cond.instanceMethod_spec hinst
  obtain ⟨m8, methM', cM, hn8, hmethM', -, -, -, -, -, -, hsigM⟩ := Cond.codeWith_spec hcode
  cases Option.some.inj (hn8.symm.trans hnamed)
  cases hmethM.symm.trans hmethM'
  obtain ⟨c2, r2, m2, q1, q2, q3, q4, kP, hkP, hkPi⟩ := Cond.selects_spec hsel
  cases hcls.symm.trans q1
  cases (State.methodFound?_of_named hnamed hy).symm.trans q2
  cases hnamed.symm.trans q3
  have hselP : selectMethod e.platform s.vm cellB.cls mk = .method mk := by rw [Launch.admits_selectMethod X.admits]; exact q4
  obtain ⟨vm₁, X₁, hstep₁⟩ := X.invokevirtual hexec hown hlink hnamed hmethM hstM hkP hkPi hy (a := b) (cell := cellB) hcell
    (fun z h => by rw [h] at hobj; cases hobj) hselP hmethM habM hkP hkPi (g := g) hg (argsL := argsL) (rest := rest) (hlen _ hsigM) hstack hdg
  rcases hK m meth c ⟨T.setVm vm₁, locs, cells, slots⟩ { g with stack := rest } (.invokevirtual index) mk (Value.ref b :: argsL).toArray X₁ hg hsize hdg hW (X₁.named hnamed) (hpre vm₁ X₁.warmed) with ⟨v, B, X', hpost, hsteps⟩ | ⟨q, B, X', hpost, hsteps⟩
  · exact Or.inl ⟨v, vm₁, B, X₁.warmed, X', hpost, fun target h => hstep₁ _ fun acts => by rw [doInvoke_state]; exact hsteps.trans h⟩
  · exact Or.inr ⟨q, vm₁, B, X₁.warmed, X', hpost, hstep₁ _ fun acts => by rw [doInvoke_state]; exact hsteps⟩
theorem vx_callSX (X : Stand p l e R s m args below meth c T locs cells slots) (hexec : p.tables.exec = Jvm.exec) {own : String} {index : Nat} {y : MethodName} {bytes : ByteArray} {maxL : Nat} {ret : Option FieldType} {hh : List (Nat × Nat × Nat × Nat)}
    (hown : s.vm.findClass own = some m.cls) (hlink : (Cond.methodLink own index y).before args s = true) (hstat : (Cond.static y).before args s = true) (hinit : (Cond.initialized y.cls).before args s = true)
    (hcode : (Cond.codeWith y bytes maxL ret hh).before args s = true) (hy : y.cls ≠ "java/lang/invoke/MethodHandle" ∧ y.cls ≠ "java/lang/invoke/VarHandle")
    {W9 : Nat} {Pre : Pt → Array Value → Prop} {Post : Pt → Array Value → Option Value → Pt → Prop} {PostX : Pt → Array Value → Addr → Pt → Prop} (hK : vx_Back l R p e below s args y 3 W9 Pre Post PostX)
    {g : JFrame} (hg : g.method = m) (hsize : g.locals.size = c.maxLocals) {argsL rest : List Value} (hlen : ∀ sig, parseMethodDescriptor y.desc = some sig → argsL.length = sig.parameters.length)
    (hstack : g.stack = argsL.reverse ++ rest) (hW : 2 * g.monitorRoom + (rest.map fun v => v.category).sum ≤ W9) (hdg : decode c.code g.pc = .ok (.invokestatic index, 3))
    (hpre : ∀ vm₁, s.WarmedH vm₁ → Pre ⟨T.setVm vm₁, locs, cells, slots⟩ argsL.toArray) :
    (∃ (v : Option Value) (vm₁ : Vm) (B : Pt), s.WarmedH vm₁ ∧ Stand p l e R s m args below meth c B.U B.locs B.cells B.slots ∧ Post ⟨T.setVm vm₁, locs, cells, slots⟩ argsL.toArray v B ∧
      ∀ target, Steps p.tables e below (B.U.setTop { g with pc := g.pc + 3, stack := v.toList ++ rest }) target → Steps p.tables e below (T.setTop g) target) ∨
    (∃ (q : Addr) (vm₁ : Vm) (B : Pt), s.WarmedH vm₁ ∧ Stand p l e R s m args below meth c B.U B.locs B.cells B.slots ∧ PostX ⟨T.setVm vm₁, locs, cells, slots⟩ argsL.toArray q B ∧
      Steps p.tables e below (T.setTop g) ((B.U.setTop { g with stack := rest }).pushFrame (.throwing q))) := by
  obtain ⟨mk, methM, cM, hnamed, hmethM, -, -, -, -, -, -, hsigM⟩ := Cond.codeWith_spec hcode
  have hstatic : methM.isStatic = true := Cond.static_spec hnamed hmethM hstat
  obtain ⟨kP, hkP, -⟩ := className_of_methodNamed hnamed
  have hinitP : kP.init = .initialized := Cond.initialized_spec (findClass_of_methodNamed hnamed) hkP hinit
  obtain ⟨vm₁, X₁, hstep₁⟩ := X.invokestatic hexec hown hlink hnamed hmethM hstatic hkP hinitP hy (g := g) hg (argsL := argsL) (rest := rest) (hlen _ hsigM) hstack hdg
  rcases hK m meth c ⟨T.setVm vm₁, locs, cells, slots⟩ { g with stack := rest } (.invokestatic index) mk argsL.toArray X₁ hg hsize hdg hW (X₁.named hnamed) (hpre vm₁ X₁.warmed) with ⟨v, B, X', hpost, hsteps⟩ | ⟨q, B, X', hpost, hsteps⟩
  · exact Or.inl ⟨v, vm₁, B, X₁.warmed, X', hpost, fun target h => hstep₁ _ fun acts => by rw [doInvoke_state]; exact hsteps.trans h⟩
  · exact Or.inr ⟨q, vm₁, B, X₁.warmed, X', hpost, hstep₁ _ fun acts => by rw [doInvoke_state]; exact hsteps⟩
theorem vx_callVW (X : Stand p l e R s m args below meth c T locs cells slots) (hexec : p.tables.exec = Jvm.exec) {own C : String} {index : Nat} {y : MethodName} {bytes : ByteArray} {maxL : Nat} {ret : Option FieldType} {hh : List (Nat × Nat × Nat × Nat)}
    (hown : s.vm.findClass own = some m.cls) (hlink : (Cond.methodLink own index y).before args s = true) (hinst : (Cond.instanceMethod y).before args s = true) (hsel : (Cond.selects C y y).before args s = true)
    (hcode : (Cond.codeWith y bytes maxL ret hh).before args s = true) (hy : y.cls ≠ "java/lang/invoke/MethodHandle" ∧ y.cls ≠ "java/lang/invoke/VarHandle")
    {W9 : Nat} {Pre : Pt → Array Value → Prop} {Post : Pt → Array Value → Option Value → Pt → Prop} (hK : Back l R p e below s args y 3 W9 Pre Post)
    {b : Addr} {cellB : Cell} (hcell : T.heap[b]? = some cellB) (hobj : cellB.vm.isStatics = false) (hcls : s.vm.findClass C = some cellB.cls)
    {g : JFrame} (hg : g.method = m) (hsize : g.locals.size = c.maxLocals) {argsL rest : List Value} (hlen : ∀ sig, parseMethodDescriptor y.desc = some sig → argsL.length = sig.parameters.length)
    (hstack : g.stack = argsL.reverse ++ .ref b :: rest) (hW : 2 * g.monitorRoom + (rest.map fun v => v.category).sum ≤ W9) (hdg : decode c.code g.pc = .ok (.invokevirtual index, 3))
    (hpre : ∀ vm₁, s.WarmedH vm₁ → Pre ⟨T.setVm vm₁, locs, cells, slots⟩ (Value.ref b :: argsL).toArray) :
    ∃ (v : Option Value) (vm₁ : Vm) (B : Pt), s.WarmedH vm₁ ∧ Stand p l e R s m args below meth c B.U B.locs B.cells B.slots ∧ Post ⟨T.setVm vm₁, locs, cells, slots⟩ (Value.ref b :: argsL).toArray v B ∧
      ∀ target, Steps p.tables e below (B.U.setTop { g with pc := g.pc + 3, stack := v.toList ++ rest }) target → Steps p.tables e below (T.setTop g) target := by
  obtain ⟨mk, methM, hnamed, hmethM, hstM, habM⟩ := Cond.instanceMethod_spec hinst
  obtain ⟨m8, methM', cM, hn8, hmethM', -, -, -, -, -, -, hsigM⟩ := Cond.codeWith_spec hcode
  cases Option.some.inj (hn8.symm.trans hnamed)
  cases hmethM.symm.trans hmethM'
  obtain ⟨c2, r2, m2, q1, q2, q3, q4, kP, hkP, hkPi⟩ := Cond.selects_spec hsel
  cases hcls.symm.trans q1
  cases (State.methodFound?_of_named hnamed hy).symm.trans q2
  cases hnamed.symm.trans q3
  have hselP : selectMethod e.platform s.vm cellB.cls mk = .method mk := by rw [Launch.admits_selectMethod X.admits]; exact q4
  obtain ⟨vm₁, X₁, hstep₁⟩ := X.invokevirtual hexec hown hlink hnamed hmethM hstM hkP hkPi hy (a := b) (cell := cellB) hcell
    (fun z h => by rw [h] at hobj; cases hobj) hselP hmethM habM hkP hkPi (g := g) hg (argsL := argsL) (rest := rest) (hlen _ hsigM) hstack hdg
  obtain ⟨v, B, X', hpost, hsteps⟩ := hK m meth c ⟨T.setVm vm₁, locs, cells, slots⟩ { g with stack := rest } (.invokevirtual index) mk (Value.ref b :: argsL).toArray X₁ hg hsize hdg hW (X₁.named hnamed) (hpre vm₁ X₁.warmed)
  exact ⟨v, vm₁, B, X₁.warmed, X', hpost, fun target h => hstep₁ _ fun acts => by rw [doInvoke_state]; exact hsteps.trans h⟩
abbrev vx_CVW (R : Room) (s : State) (args : Array Value) (own C : String) (index : Nat) (y : MethodName) (bytes : ByteArray) (maxL : Nat) (ret : Option FieldType) (hh : List (Nat × Nat × Nat × Nat)) (ws : List Cond) (rm : Room) (mc ms n : Nat) : Prop :=
  (rm.cells = mc ∧ rm.slots = ms ∧ rm.frames + 1 ≤ R.frames ∧ 8 + (maxL + 11) + rm.locals ≤ R.locals ∧ (∀ w ∈ ws, ∀ (a' : Array Value) (U : State), s.WarmedH U.vm → w.before a' U = true) ∧ Cond.codeWith y bytes maxL ret hh ∈ ws) ∧
  (Cond.codeWith y bytes maxL ret hh).before args s = true ∧ (Cond.initialized y.cls).before args s = true ∧ (y.cls ≠ "java/lang/invoke/MethodHandle" ∧ y.cls ≠ "java/lang/invoke/VarHandle") ∧
  (∀ sig, parseMethodDescriptor y.desc = some sig → n = sig.parameters.length) ∧ (Cond.methodLink own index y).before args s = true ∧ (Cond.instanceMethod y).before args s = true ∧ (Cond.selects C y y).before args s = true
theorem vx_cwVW {own C : String} {index maxL mc ms : Nat} {y : MethodName} {bytes : ByteArray} {ret : Option FieldType} {hh : List (Nat × Nat × Nat × Nat)} {Ts ws ws' : List Cond} {rm : Room} (n : Nat) (ht : ∀ w ∈ Ts, w.before args s = true) (hT : GoodIn Ts (wsV own index C y ws)) (hw : ws = Cond.codeWith y bytes maxL ret hh :: ws') (hrc : rm.cells = mc) (hrs : rm.slots = ms)
    (hd : y.cls = C ∧ y.cls ≠ "java/lang/invoke/MethodHandle" ∧ y.cls ≠ "java/lang/invoke/VarHandle" ∧ (parseMethodDescriptor y.desc).map (fun d => d.parameters.length) = some n) (hR : rm.frames + 1 ≤ R.frames ∧ 8 + (maxL + 11) + rm.locals ≤ R.locals) :
    vx_CVW R s args own C index y bytes maxL ret hh ws rm mc ms n := by
  obtain ⟨hC, hd⟩ := hd
  subst hC
  have ok : ∀ w ∈ wsV own index y.cls y ws, w.before args s = true := fun w h => ht w (hT w h).1
  have hG : GoodIn Ts ws := fun w h => hT w (by unfold wsV; exact List.mem_append_right _ h)
  have hc : Cond.codeWith y bytes maxL ret hh ∈ ws := by rw [hw]; exact List.mem_cons_self
  refine ⟨⟨hrc, hrs, hR.1, hR.2, pay_in ht hG, hc⟩, ht _ (hG _ hc).1, ok _ (by simp [wsV]), ⟨hd.1, hd.2.1⟩, fun sig h => ?_, ok _ (by simp [wsV]), ok _ (by simp [wsV]), ok _ (by simp [wsV])⟩
  have h2 := hd.2.2
  rw [h] at h2
  exact (Option.some.inj h2).symm
theorem vx_runVW {y : MethodName} {bytes cc : ByteArray} {maxL nL mc ms n index : Nat} {ret : Option FieldType} {hh : List (Nat × Nat × Nat × Nat)} {ws : List Cond} {rm : Room} {Pc : Array Value → State → Prop} {Qc : Array Value → State → Outcome → State → Prop} {free : Addr → Prop} {Ts : List Cond} {own C : String} {b : Addr} {As rest : List Value} {g : JFrame}
    (S : CallFix p m c cc nL s args Ts own) (hM : Met l y ws rm Pc Qc mc ms free) (cw : vx_CVW R s args own C index y bytes maxL ret hh ws rm mc ms n) (hp : PreV s H C b Pc As)
    (hg : g.method = m) (hn : As.length = n) (hsize : g.locals.size = nL) (hstack : g.stack = As.reverse ++ .ref b :: rest) (hW : 2 * g.monitorRoom + (rest.map fun v => v.category).sum ≤ 8) (hdg : decode cc g.pc = .ok (.invokevirtual index, 3)) (hf : cells + mc ≤ R.cells ∧ slots + ms ≤ R.slots) :
    va_Run p l e R s m args below meth c H locs cells slots mc ms g rest (Qc (Value.ref b :: As).toArray) free := by
  obtain ⟨⟨hrc, hrs, hfr, hlo, hws, hcw⟩, hcode, hini, hy, hlen, hl, hin, hse⟩ := cw
  have hK : Back l R p e below s args y 3 8 (PreOf R mc ms Pc) (PostOf Qc mc ms free) := va_backW (hh := hh) (bytes := bytes) (maxL := maxL) (ret := ret) hM hp.1 hrc hrs hfr hlo hws hcw (fun a' U hW => word_at hW (Or.inl (by first | rfl | simp [Cond.onTables, Cond.keeps, Cond.steady])) hini)
  obtain ⟨hx, hb, hml, ho, -⟩ := S
  obtain ⟨-, ⟨cellB, hcB, hoB, hclB⟩, hPc⟩ := hp
  intro T hT X
  obtain ⟨v, vm₁, ⟨U', l2, c2, s2⟩, hW₁, X', ⟨g', mk, t, L, e1, e2, hq, h1, hL, h2, h3⟩, st⟩ := vx_callVW X hx (C := C) (hh := hh) (bytes := bytes) (maxL := maxL) (ret := ret) ho hl hin hse hcode hy hK (by rw [hT]; exact hcB) hoB hclB hg (hsize.trans hml.symm) (argsL := As) (rest := rest) (fun sig h => hn.trans (hlen sig h)) hstack hW (by rw [hb]; exact hdg)
    (fun vm₁ hW₁ => ⟨hf.1, hf.2, hPc (T.setVm vm₁) hT hW₁⟩)
  dsimp only [Pt.U, Pt.locs, Pt.cells, Pt.slots] at X' e1 e2 h1 h2 h3 st
  subst h1; subst h2; subst h3
  exact ⟨v, (T.setVm vm₁).calling g' mk (Value.ref b :: As).toArray, t, U', L, hT, X', hL, e1, e2, hq, st⟩
section
variable {y : MethodName} {bytes cc : ByteArray} {maxL nL mc ms n index : Nat} {ret : Option FieldType} {ws : List Cond} {rm : Room} {Pc : Array Value → State → Prop} {Qc : Array Value → State → Outcome → State → Prop} {XC : String → State → State → Prop} {free : Addr → Prop} {Ts : List Cond} {own C : String} {b : Addr} {As rest : List Value} {g : JFrame}
theorem vx_runVX {hh : List (Nat × Nat × Nat × Nat)} (S : CallFix p m c cc nL s args Ts own) (hM : vx_Met l y ws rm Pc Qc XC mc ms free) (cw : vx_CVW R s args own C index y bytes maxL ret hh ws rm mc ms n) (hp : PreV s H C b Pc As)
    (hg : g.method = m) (hn : As.length = n) (hsize : g.locals.size = nL) (hstack : g.stack = As.reverse ++ .ref b :: rest) (hW : 2 * g.monitorRoom + (rest.map fun v => v.category).sum ≤ 8) (hdg : decode cc g.pc = .ok (.invokevirtual index, 3)) (hf : cells + mc ≤ R.cells ∧ slots + ms ≤ R.slots) :
    vx_Run p l e R s m args below meth c H locs cells slots mc ms g rest (Qc (Value.ref b :: As).toArray) XC free := by
  obtain ⟨⟨hrc, hrs, hfr, hlo, hws, hcw⟩, hcode, hini, hy, hlen, hl, hin, hse⟩ := cw
  have hK : vx_Back l R p e below s args y 3 8 (PreOf R mc ms Pc) (PostOf Qc mc ms free) (vx_Post XC mc ms free) := vx_backW (hh := hh) (bytes := bytes) (maxL := maxL) (ret := ret) hM hp.1 hrc hrs hfr hlo hws hcw (fun a' U hW => word_at hW (Or.inl (by first | rfl | simp [Cond.onTables, Cond.keeps, Cond.steady])) hini)
  obtain ⟨hx, hb, hml, ho, -⟩ := S
  obtain ⟨-, ⟨cellB, hcB, hoB, hclB⟩, hPc⟩ := hp
  intro T hT X
  rcases vx_callVX X hx (C := C) (hh := hh) (bytes := bytes) (maxL := maxL) (ret := ret) ho hl hin hse hcode hy hK (by rw [hT]; exact hcB) hoB hclB hg (hsize.trans hml.symm) (argsL := As) (rest := rest) (fun sig h => hn.trans (hlen sig h)) hstack hW (by rw [hb]; exact hdg)
    (fun vm₁ hW₁ => ⟨hf.1, hf.2, hPc (T.setVm vm₁) hT hW₁⟩) with ⟨v, vm₁, ⟨U', l2, c2, s2⟩, hW₁, X', ⟨g', mk, t, L, e1, e2, hq, h1, hL, h2, h3⟩, st⟩ | ⟨q, vm₁, ⟨U', l2, c2, s2⟩, hW₁, X', ⟨g', mk, t, L, E, ce, e1, e2, hq, hce, hcv, hcl, h1, hL, h2, h3⟩, st⟩
  · dsimp only [Pt.U, Pt.locs, Pt.cells, Pt.slots] at X' e1 e2 h1 h2 h3 st
    subst h1; subst h2; subst h3
    exact Or.inl ⟨v, (T.setVm vm₁).calling g' mk (Value.ref b :: As).toArray, t, U', L, hT, X', hL, e1, e2, hq, st⟩
  · dsimp only [Pt.U, Pt.locs, Pt.cells, Pt.slots] at X' e1 e2 h1 h2 h3 st hcl
    subst h1; subst h2; subst h3
    exact Or.inr ⟨q, (T.setVm vm₁).calling g' mk (Value.ref b :: As).toArray, t, U', L, E, ce, hT, X', hL, e1, e2, hq, hce, hcv, vx_cls hW₁ hcl, st⟩
theorem vx_runSX {hh : List (Nat × Nat × Nat × Nat)} (S : CallFix p m c cc nL s args Ts own) (hM : vx_Met l y ws rm Pc Qc XC mc ms free) (cw : vx_CSW R s args own index y bytes maxL ret hh ws rm mc ms n) (hp : PreS s H Pc As)
    (hg : g.method = m) (hn : As.length = n) (hsize : g.locals.size = nL) (hstack : g.stack = As.reverse ++ rest) (hW : 2 * g.monitorRoom + (rest.map fun v => v.category).sum ≤ 8) (hdg : decode cc g.pc = .ok (.invokestatic index, 3)) (hf : cells + mc ≤ R.cells ∧ slots + ms ≤ R.slots) :
    vx_Run p l e R s m args below meth c H locs cells slots mc ms g rest (Qc As.toArray) XC free := by
  obtain ⟨⟨hrc, hrs, hfr, hlo, hws, hcw⟩, hcode, hini, hy, hlen, hl, hstt⟩ := cw
  have hK : vx_Back l R p e below s args y 3 8 (PreOf R mc ms Pc) (PostOf Qc mc ms free) (vx_Post XC mc ms free) := vx_backW (hh := hh) (bytes := bytes) (maxL := maxL) (ret := ret) hM hp.1 hrc hrs hfr hlo hws hcw (fun a' U hW => word_at hW (Or.inl (by first | rfl | simp [Cond.onTables, Cond.keeps, Cond.steady])) hini)
  obtain ⟨hx, hb, hml, ho, -⟩ := S
  intro T hT X
  rcases vx_callSX X hx (hh := hh) (bytes := bytes) (maxL := maxL) (ret := ret) ho hl hstt hini hcode hy hK hg (hsize.trans hml.symm) (argsL := As) (rest := rest) (fun sig h => hn.trans (hlen sig h)) hstack hW (by rw [hb]; exact hdg)
    (fun vm₁ hW₁ => ⟨hf.1, hf.2, hp.2 (T.setVm vm₁) hT hW₁⟩) with ⟨v, vm₁, ⟨U', l2, c2, s2⟩, hW₁, X', ⟨g', mk, t, L, e1, e2, hq, h1, hL, h2, h3⟩, st⟩ | ⟨q, vm₁, ⟨U', l2, c2, s2⟩, hW₁, X', ⟨g', mk, t, L, E, ce, e1, e2, hq, hce, hcv, hcl, h1, hL, h2, h3⟩, st⟩
  · dsimp only [Pt.U, Pt.locs, Pt.cells, Pt.slots] at X' e1 e2 h1 h2 h3 st
    subst h1; subst h2; subst h3
    exact Or.inl ⟨v, (T.setVm vm₁).calling g' mk As.toArray, t, U', L, hT, X', hL, e1, e2, hq, st⟩
  · dsimp only [Pt.U, Pt.locs, Pt.cells, Pt.slots] at X' e1 e2 h1 h2 h3 st hcl
    subst h1; subst h2; subst h3
    exact Or.inr ⟨q, (T.setVm vm₁).calling g' mk As.toArray, t, U', L, E, ce, hT, X', hL, e1, e2, hq, hce, hcv, vx_cls hW₁ hcl, st⟩
end
end VXH
theorem vx_ofWH {l : Launch} {y : MethodName} {ws ws' : List Cond} {rm : Room} {Pc : Array Value → State → Prop} {Qc : Array Value → State → Outcome → State → Prop} {XC : String → State → State → Prop} {mc ms : Nat} {free : Addr → Prop} {cc : ByteArray} {maxL : Nat} {ret : Option FieldType} {hh : List (Nat × Nat × Nat × Nat)}
    (hy : plainName y.cls = true) (hw : ws = Cond.codeWith y cc maxL ret hh :: ws')
    (body : ∀ p e s m args below meth c s₁, BodyLoose p l y (headSpec ws rm) cc maxL ret e s m args below meth c s₁ → c.maxLocals = maxL → Pc args s →
      W p l e (headSpec ws rm).room s m args below meth c s.heap [] 0 0 (vx_MQ below Qc XC args s mc ms free) (entryFrame m args maxL)) : vx_Met l y ws rm Pc Qc XC mc ms free := by
  refine MetFree.of_bodyS (code := cc) (maxLocals := maxL) (ret := ret) hy ?_ ?_
  · intro args s m h hn
    obtain ⟨m9, meth, c, hn9, h1, h2, h3, h4, -, h5, h6, -⟩ := Cond.codeWith_spec (atoms_spec (ws := ws) h _ (by rw [hw]; exact List.mem_cons_self))
    cases hn.symm.trans hn9
    exact ⟨meth, c, h1, h2, h3, h4, h5, h6⟩
  · intro p e s m args below meth c s₁ B hml hP _
    have hh0 : s₁.heap = s.heap := by rw [B.state]; rfl
    obtain ⟨t, a1, o, b1, b2, b3⟩ := body p e s m args below meth c s₁ B hml hP s₁ hh0 (Stand.of_body B)
    exact ⟨t, o, a1, b1, b2, b3⟩
/-! ===== END ===== -/

/-! ===== BEGIN what the machine throws by itself, no traces kept ===== -/
section VXM
set_option maxHeartbeats 1000000 in
/-- the machine throws cls with the message text, no traces kept: from its note over the frame g to 'throwing' over the same frame (follows the proofs of Stand.vmThrowsMessage, Shelf/KitTracedVmS.lean, and Stand.throwsMessageColdBareV, StandMessageColdV.lean, without the step out of the frame) -/
theorem vx_vmAt {p : Program} {l : Launch} {e : Env} {R : Room} {s : State} {m₀ : MethodId} {args : Array Value} {below : List Frame} {meth : Method} {c : Code} {W : State} {locs : List Loc} {cells slots : Nat}
    (X : Stand p l e R s m₀ args below meth c W locs cells slots) (hexec : p.tables.exec = Jvm.exec) (htr : e.platform.stackTraces = false) {cls : String} {names : List String} {text : String}
    (hcls : Bundle.fit cls = true) (hnames : ∀ n ∈ names, Bundle.fit n = true) (hsoe : (cls == "java/lang/StackOverflowError") = false) (hoom : (cls == "java/lang/OutOfMemoryError") = false)
    (h : ∀ a ∈ Bundle.messageArmAtoms cls names, a.before args s = true)
    (hlocs : ∀ x ∈ locs, ∀ cell, s.heap[x.base]? = some cell → cell.vm.isStatics = false)
    (htext : (text == notModelled) = false) (hlimit : ¬ (stringBytes (stringToUtf16 text)).size > e.platform.arrayLengthLimit) (hheap : ¬ (stringBytes (stringToUtf16 text)).size * componentBytes .byte > e.platform.maxHeapBytes)
    {g : JFrame} (hg : g.method = m₀) (hsize : g.locals.size = c.maxLocals)
    (hRframes : names.length + 4 < R.frames) (hRlocals : 2 * g.monitorRoom + (g.stack.map fun v => v.category).sum + 10240 ≤ R.locals) (hshort : 13 * names.length + 55 ≤ 10240)
    (hRcells : cells + 3 ≤ R.cells) (hRslots : slots + ((stringBytes (stringToUtf16 text)).size + 4 + 6) ≤ R.slots) (hlocks : meth.locks = false) :
    ∃ (S : State) (q : Addr) (ce : Cell), (∀ target, Steps p.tables e below ((S.setTop g).pushFrame (.throwing q)) target → Steps p.tables e below ((W.setTop g).pushFrame (.throwNew cls (some text) none)) target) ∧
      Stand p l e R s m₀ args below meth c S locs (cells + 3) (slots + ((stringBytes (stringToUtf16 text)).size + 4 + 6)) ∧ S.heap[q]? = some ce ∧ s.vm.findClass cls = some ce.cls ∧ ce.vm = .none := by
  have howns : e.platform.frameOwnsMonitors = true := by rw [X.admits.platform]
  have hfin : e.platform.finalization = false := by rw [X.admits.platform]
  have hpl : e.platform.magicAccessors = ({} : Platform).magicAccessors := by rw [X.admits.platform]
  have a : ∀ x, x ∈ Bundle.messageArmAtoms cls names → x.holds args s none s [] = true := fun x hx => h x hx
  obtain ⟨T, Z0, L, -, Y⟩ := ThrowableC.of_atoms (args := args) howns hfin hpl (fun x hx => h x (by simp [Bundle.messageArmAtoms, hx]))
  obtain ⟨Z, M, LZ, LM, hnZ⟩ := Init0T.ofS_atoms (args := args) hpl L Y (fun x hx => h x (by simp [Bundle.messageArmAtoms, hx]))
  obtain ⟨P1, Ps, hlen, L1, hL, hP1m, hlink1, hlink⟩ := Bundle.chainS (args := args) hpl hnZ names cls hcls hnames (fun x hx => h x (by simp [Bundle.messageArmAtoms, hx]))
  obtain ⟨Zs, LZs, hn4, hfitv, hfitc⟩ := StringT.of_atoms (args := args) (fun x hx => h x (by simp [Bundle.messageArmAtoms, hx]))
  have hfound : s.vm.findClass cls = some P1.m.cls := findClass_of_methodNamed hP1m
  obtain ⟨c1, kX, hc1, hk, hord, -, -, hn6⟩ := Cond.instantiable_spec (a (.instantiable cls 6) (by simp [Bundle.messageArmAtoms]))
  cases Option.some.inj (hc1.symm.trans hfound)
  have hinit := Cond.initialized_spec hfound hk (a (.initialized cls) (by simp [Bundle.messageArmAtoms]))
  have hctor : kX.findMethod "<init>" "(Ljava/lang/String;)V" = some P1.m.idx := findMethod_of_methodNamed hP1m hk
  have hsel0 : selectMethod e.platform s.vm P1.m.cls T.fill0 = .method T.fill0 := by
    obtain ⟨c2, r2, m2, q1, q2, q3, q4, -⟩ := Cond.selects_spec (a (.selects cls Bundle.tFill0 Bundle.tFill0) (by simp [Bundle.messageArmAtoms]))
    cases Option.some.inj (q1.symm.trans hfound)
    cases Option.some.inj (q2.symm.trans (State.methodFound?_of_named Y.fill0 (by decide)))
    cases Option.some.inj (q3.symm.trans Y.fill0)
    rw [Launch.admits_selectMethod X.admits]; exact q4
  have hselF : selectMethod e.platform s.vm P1.m.cls T.fill = .method T.fill := by
    obtain ⟨c2, r2, m2, q1, q2, q3, q4, -⟩ := Cond.selects_spec (a (.selects cls Bundle.tFill Bundle.tFill) (by simp [Bundle.messageArmAtoms]))
    cases Option.some.inj (q1.symm.trans hfound)
    cases Option.some.inj (q2.symm.trans (State.methodFound?_of_named Y.fill (by decide)))
    cases Option.some.inj (q3.symm.trans Y.fill)
    rw [Launch.admits_selectMethod X.admits]; exact q4
  obtain ⟨cellS0, hcS0, hiss⟩ := Y.statics
  obtain ⟨u0, hu0⟩ := Cond.staticRefV Y.unassigned L.unassignedStatic L.statics hcS0 hiss (a (.isRef (.static Bundle.tN "UNASSIGNED_STACK" Bundle.steD)) (by simp [Bundle.messageArmAtoms]))
  obtain ⟨sen, hsen⟩ := Cond.staticRefV Y.sentinel L.sentinelStatic L.statics hcS0 hiss (a (.isRef (.static Bundle.tN "SUPPRESSED_SENTINEL" Bundle.listD)) (by simp [Bundle.messageArmAtoms]))
  obtain ⟨ci198, i198, fB, hk198, hg198, ha198, hsB, -, hnB, htB, hffB⟩ := Cond.ownField (t := .object "java/lang/Object") Y.found L.cls (by decide +kernel) (a (.fieldLink Bundle.tN 198 Bundle.tN "backtrace" "Ljava/lang/Object;") (by simp [Bundle.messageArmAtoms])) (a (.lays Bundle.tN Bundle.tN "backtrace" "Ljava/lang/Object;") (by simp [Bundle.messageArmAtoms])) e.platform hpl
  obtain ⟨cellS, hcS', heS, -, hkeep⟩ := X.same.2.2.2.2.2 T.aS cellS0 hcS0
  have hcellS : W.heap[T.aS]? = some cellS := hcS'
  have hout' : ∀ i, (⟨T.aS, i⟩ : Loc) ∉ locs := fun i hmem => by
    have := hlocs _ hmem cellS0 hcS0
    rw [hiss] at this; cases this
  have hknownS : cellS.vm ≠ .unknown := by
    rw [heS]; intro hu
    rw [show cellS0.vm = .unknown from hu] at hiss
    cases hiss
  have hvU : cellS.slots[T.fUnassigned.slot]? = some u0.v := by rw [hkeep _ (hout' _)]; exact hu0
  have hvSen : cellS.slots[T.fSentinel.slot]? = some sen.v := by rw [hkeep _ (hout' _)]; exact hsen
  obtain ⟨iM, hffM⟩ := Y.msg
  obtain ⟨tyC, dC, hdC, hdnC⟩ := Cond.laysAt hfound hk Y.cause (a (.lays cls Bundle.tN "cause" "Ljava/lang/Throwable;") (by simp [Bundle.messageArmAtoms]))
  obtain ⟨tyS, dS, hdS, hdnS⟩ := Cond.laysAt hfound hk Y.stack (a (.lays cls Bundle.tN "stackTrace" Bundle.steD) (by simp [Bundle.messageArmAtoms]))
  obtain ⟨tyP, dP, hdP, hdnP⟩ := Cond.laysAt hfound hk Y.supp (a (.lays cls Bundle.tN "suppressedExceptions" Bundle.listD) (by simp [Bundle.messageArmAtoms]))
  obtain ⟨tyM, dM, hdM, hdnM⟩ := Cond.laysAt hfound hk hffM (a (.lays cls Bundle.tN "detailMessage" "Ljava/lang/String;") (by simp [Bundle.messageArmAtoms]))
  obtain ⟨tyB, dB, hdB, hdnB⟩ := Cond.laysAt hfound hk hffB (a (.lays cls Bundle.tN "backtrace" "Ljava/lang/Object;") (by simp [Bundle.messageArmAtoms]))
  have bC := Cond.laysApart hdB hdC hdnB hdnC (by rw [hnB, Y.causeName]; decide)
  have bS := Cond.laysApart hdB hdS hdnB hdnS (by rw [hnB, Y.stackName]; decide)
  have bP := Cond.laysApart hdB hdP hdnB hdnP (by rw [hnB, Y.suppName]; decide)
  have hbk : ((preparedCellV T.toThrowableT (freshCell P1.m.cls kX) (W.heap.size + 2) u0 sen).withEntry W.cur).slots[fB.slot]? = some .null := by
    have := fresh_default (c := P1.m.cls) tyB
    rw [htB] at this
    simpa [preparedCellV, Cell.setSlot, Cell.withEntry, Array.getElem?_setIfInBounds, bC, bS, bP, bC.symm, bS.symm, bP.symm, defaultValue] using this
  have tkC := Takes.of_laid (v := .ref (W.heap.size + 2)) hk hord tyC (by rw [Y.causeType]; rfl)
  have tkS := Takes.of_laid (v := u0.v) hk hord tyS (by rw [Y.stackType]; exact fits_refV_array _ u0)
  have tkP := Takes.of_laid (v := sen.v) hk hord tyP (by rw [Y.suppType]; exact fits_refV_object _ sen)
  have tkM := Takes.of_laid (v := .ref (W.heap.size + 1)) hk hord tyM (by rw [Y.msgType]; rfl)
  have hskip : SkipFacts T e.platform s (fun u => u) u0 ((preparedCellV T.toThrowableT (freshCell P1.m.cls kX) (W.heap.size + 2) u0 sen).withEntry W.cur) := ⟨{ ci198 := ci198, i198 := i198, fBack := fB }, ⟨hk198, hg198, ha198, hsB⟩, hbk, fun _ _ => rfl⟩
  have h0 : At W g.method c below := by rw [hg]; exact X.here
  obtain ⟨hbeyond, hfreeW⟩ := X.vmMayThrow hsize (.throwNew cls (some text) none) (fun f hf => by cases hf) rfl hRlocals
  have hfr' : W.frames.length + Ps.length + 4 < (e.platform.stackLimits W.me).1 := by have := X.framesAbove hRframes; omega
  have hwd' : (stackUse (.java g :: W.frames.tail)).2 + 13 * Ps.length + 55 ≤ (e.platform.stackLimits W.me).2 := by have := X.stackAbove hsize (K := 13 * Ps.length + 55) (by omega); omega
  have hslots : W.slotsUsed + (stringBytes (stringToUtf16 text)).size + Zs.kS.instanceTypes.size + kX.instanceTypes.size ≤ e.platform.maxSlots := by
    have := X.slotsAbove hRslots
    rw [hn4, hn6]
    omega
  obtain ⟨vm', hW', st⟩ := Steps.vmThrowsMessageColdByV p (s₀ := s) (S := W) (g := g) h0 hexec T L Z LZ M LM X.warmed (t := W.cur) rfl Zs LZs P1 L1 Ps hL hlink1 hlink hsoe hoom hfound hk hinit hord hctor
    (Launch.admits_hotImplicitExceptions X.admits) hbeyond hfreeW htext hlimit hheap (X.cellsAbove hRcells) hslots (hfitv _) (hfitc _)
    (Nn := fun u => u) heapOnly_id (fun _ _ => rfl) (fun _ => rfl) (fun u x y => setCell_twice _ _ _ _) (fun _ => Nat.le_refl _) (cN := ((preparedCellV T.toThrowableT (freshCell P1.m.cls kX) (W.heap.size + 2) u0 sen).withEntry W.cur))
    hsel0 hcellS hknownS hvU tkS (fun _ hu => hu) (fun _ hu => hu) rfl rfl rfl (by simp [preparedCellV, Cell.setSlot, Cell.withEntry]) hskip (fun _ _ hA hW _ hroom _ hrest => L.nativeOff p htr hA hW hroom hrest) hselF hvSen tkC tkP tkM Y.objLocals rfl hfr' hwd'
  rw [plainBareV_eq T.toThrowableT (W.heap.size + 2) u0 sen (.ref (W.heap.size + 1)) W.cur rfl rfl] at st
  obtain ⟨-, -, w3, w4, -, -, -⟩ := withThrown_facts e.platform W Zs text P1.m.cls kX
  have X3 := ((X.pushed (bytesOf Zs.cB (stringToUtf16 text))).pushed (stringAt Zs.cS Zs.kS Zs.fv Zs.fc (stringToUtf16 text) W.heap.size)).pushed (freshCell P1.m.cls kX)
  rw [← withString_eq] at X3
  have X4 := X3.noted hW'
  have ha : (W.heap.size + 2) < ((withThrown W Zs text P1.m.cls kX).setVm vm').heap.size := by show _ < (withThrown W Zs text P1.m.cls kX).heap.size; rw [w3]; omega
  have hcell : ((withThrown W Zs text P1.m.cls kX).setVm vm').heap[(W.heap.size + 2)]? = some (freshCell P1.m.cls kX) := w4
  have X5 := ((((X4.stored hcell T.fCause.slot (.ref (W.heap.size + 2))).storedAgain ha T.fStack.slot u0.v).storedAgain ha T.fSupp.slot sen.v).storedAgain ha T.fStack.slot u0.v).storedAgain ha T.fMsg.slot (.ref (W.heap.size + 1))
  obtain ⟨g₁, hfrM⟩ := X5.frames_eq
  have hU : ((((withThrown W Zs text P1.m.cls kX).setVm vm').setCell (W.heap.size + 2) (plainBareV T.toThrowableT (freshCell P1.m.cls kX) (W.heap.size + 2) u0 sen (.ref (W.heap.size + 1)))).setTop g).pushFrame (.throwing (W.heap.size + 2)) = (((withThrown W Zs text P1.m.cls kX).setVm vm').setCell (W.heap.size + 2) (plainBareV T.toThrowableT (freshCell P1.m.cls kX) (W.heap.size + 2) u0 sen (.ref (W.heap.size + 1)))).setFrames (.throwing (W.heap.size + 2) :: .java g :: below) := by
    rw [State.pushFrame, State.frames_setTop _ hfrM, State.setTop_of_frames _ hfrM, State.setFrames_setFrames]
  have b1 : (bytesOf Zs.cB (stringToUtf16 text)).slots.size = (stringBytes (stringToUtf16 text)).size := by
    rw [(Cell.writeAll_facts _ _).2.2]; simp [bytes0]
  have b2 : (stringAt Zs.cS Zs.kS Zs.fv Zs.fc (stringToUtf16 text) W.heap.size).slots.size = 4 := by simp [string0, Cell.setSlot, hn4]
  have b3 : (freshCell P1.m.cls kX).slots.size = 6 := by simp [hn6]
  rw [b1, b2, b3] at X5
  have e9 : slots + (stringBytes (stringToUtf16 text)).size + 4 + 6 = slots + ((stringBytes (stringToUtf16 text)).size + 4 + 6) := by omega
  rw [e9] at X5
  simp only [List.append_assoc, List.cons_append, List.nil_append] at X5
  refine ⟨((withThrown W Zs text P1.m.cls kX).setVm vm').setCell (W.heap.size + 2) (plainBareV T.toThrowableT (freshCell P1.m.cls kX) (W.heap.size + 2) u0 sen (.ref (W.heap.size + 1))), W.heap.size + 2, _, fun target ht => st _ (by rw [X.tail, ← hU]; exact ht),
    X5.forget (fun y hy => ?_), heapAt_setCell_self _ ha, hfound, rfl⟩
  simp only [List.mem_cons, List.not_mem_nil, or_false] at hy
  have hge : s.heap.size ≤ W.heap.size := X.same.2.1
  rcases hy with rfl | rfl | rfl | rfl | rfl <;> exact Nat.le_trans hge (Nat.le_add_right _ 2)
set_option maxHeartbeats 1000000 in
/-- the machine throws NullPointerException, no traces kept: from its note over the frame g to 'throwing' over the same frame (follows the proof of Stand.vmThrowsNpe, Shelf42/KT2.lean; throwsNpeColdBareVAt, Shelf42/NT91.lean, called) -/
theorem vx_npeAt {p : Program} {l : Launch} {e : Env} {R : Room} {s : State} {m₀ : MethodId} {args : Array Value} {below : List Frame} {meth : Method} {c : Code} {W : State} {locs : List Loc} {cells slots : Nat}
    (X : Stand p l e R s m₀ args below meth c W locs cells slots) (hexec : p.tables.exec = Jvm.exec) (htr : e.platform.stackTraces = false) {n : Nat}
    (h : ∀ a ∈ Bundle.npeArmAtoms n, a.before args s = true)
    (hlocs : ∀ x ∈ locs, ∀ cell, s.heap[x.base]? = some cell → cell.vm.isStatics = false)
    {g : JFrame} (hg : g.method = m₀) (hsize : g.locals.size = c.maxLocals)
    (hRframes : 7 < R.frames) (hRlocals : 2 * g.monitorRoom + (g.stack.map fun v => v.category).sum + 10240 ≤ R.locals)
    (hRcells : cells + 1 ≤ R.cells) (hRslots : slots + n ≤ R.slots) (hlocks : meth.locks = false) :
    ∃ (S : State) (q : Addr) (ce : Cell), (∀ target, Steps p.tables e below ((S.setTop g).pushFrame (.throwing q)) target → Steps p.tables e below ((W.setTop g).pushFrame (.throwNew "java/lang/NullPointerException" none none)) target) ∧
      Stand p l e R s m₀ args below meth c S locs (cells + 1) (slots + n) ∧ S.heap[q]? = some ce ∧ s.vm.findClass "java/lang/NullPointerException" = some ce.cls ∧ ce.vm = .none := by
  have howns : e.platform.frameOwnsMonitors = true := by rw [X.admits.platform]
  have hfin : e.platform.finalization = false := by rw [X.admits.platform]
  have hpl : e.platform.magicAccessors = ({} : Platform).magicAccessors := by rw [X.admits.platform]
  have hpl2 : e.platform.arrayCloneIsPublic = true := by rw [X.admits.platform]
  have a' : ∀ x, x ∈ Bundle.npeArmAtoms n → x.holds args s none s [] = true := fun x hx => h x hx
  obtain ⟨T, Z, L, LZ, Y⟩ := ThrowableC.of_atoms (args := args) howns hfin hpl (fun x hx => h x (by simp [Bundle.npeArmAtoms, hx]))
  obtain ⟨N, LN, hcN, hnNF, hordN, hffS⟩ := NpeC.of_atoms (args := args) hpl hpl2 L Y (fun x hx => h x (by simp [Bundle.npeArmAtoms, hx]))
  obtain ⟨P1, L1, hP1m, hP1s⟩ := PassC.of_atoms (args := args) (s := s) hpl (X := Bundle.nN) (Y := Bundle.rN) (by decide) (by decide) LibCode.NullPointerException.Init0.at_0 LibCode.NullPointerException.Init0.at_1 LibCode.NullPointerException.Init0.at_4 (fun x hx => h x (by simp [Bundle.npeArmAtoms, hx]))
  obtain ⟨PR, LR, hPRm, hPRs⟩ := PassC.of_atoms (args := args) (s := s) hpl (X := Bundle.rN) (Y := Bundle.eN) (by decide) (by decide) LibCode.RuntimeException.Init0.at_0 LibCode.RuntimeException.Init0.at_1 LibCode.RuntimeException.Init0.at_4 (fun x hx => h x (by simp [Bundle.npeArmAtoms, hx]))
  obtain ⟨PE, LEx, hPEm, hPEs⟩ := PassC.of_atoms (args := args) (s := s) hpl (X := Bundle.eN) (Y := Bundle.tN) (by decide) (by decide) LibCode.Exception.Init0.at_0 LibCode.Exception.Init0.at_1 LibCode.Exception.Init0.at_4 (fun x hx => h x (by simp [Bundle.npeArmAtoms, hx]))
  have hfound : s.vm.findClass Bundle.nN = some P1.m.cls := findClass_of_methodNamed hP1m
  have ecls : N.cN = P1.m.cls := Option.some.inj (hcN.symm.trans hfound)
  have hk : s.vm.classes[P1.m.cls]? = some N.kN := by rw [← ecls]; exact LN.cls
  have hinit := Cond.initialized_spec hfound hk (a' (.initialized Bundle.nN) (by simp [Bundle.npeArmAtoms]))
  have hctor : N.kN.findMethod "<init>" "()V" = some P1.m.idx := findMethod_of_methodNamed hP1m hk
  obtain ⟨c1, k1, hc1, hk1, -, -, -, hn⟩ := Cond.instantiable_spec (a' (.instantiable Bundle.nN n) (by simp [Bundle.npeArmAtoms]))
  cases Option.some.inj (hc1.symm.trans hfound)
  cases Option.some.inj (hk1.symm.trans hk)
  have hfsz : (freshCell P1.m.cls N.kN).slots.size = n := by simp [hn]
  have hlink1 : P1.sup = PR.m := Option.some.inj (hP1s.symm.trans hPRm)
  have hlinkR : PR.sup = PE.m := Option.some.inj (hPRs.symm.trans hPEm)
  have hlinkE : PE.sup = Z.m T.toThrowableT := Option.some.inj (hPEs.symm.trans Y.init0)
  have hLs : ∀ P, P ∈ [PR, PE] → P.Links0 e.platform s := fun P hP => by
    simp only [List.mem_cons, List.not_mem_nil, or_false] at hP
    rcases hP with rfl | rfl
    · exact LR
    · exact LEx
  have hsel0 : selectMethod e.platform s.vm P1.m.cls T.fill0 = .method T.fill0 := by
    obtain ⟨c2, r2, m2, q1, q2, q3, q4, -⟩ := Cond.selects_spec (a' (.selects Bundle.nN Bundle.tFill0 Bundle.tFill0) (by simp [Bundle.npeArmAtoms]))
    cases Option.some.inj (q1.symm.trans hfound)
    cases Option.some.inj (q2.symm.trans (State.methodFound?_of_named Y.fill0 (by decide)))
    cases Option.some.inj (q3.symm.trans Y.fill0)
    rw [Launch.admits_selectMethod X.admits]; exact q4
  have hselF : selectMethod e.platform s.vm P1.m.cls T.fill = .method N.fill := by
    obtain ⟨c2, r2, m2, q1, q2, q3, q4, -⟩ := Cond.selects_spec (a' (.selects Bundle.nN Bundle.tFill Bundle.nFill) (by simp [Bundle.npeArmAtoms]))
    cases Option.some.inj (q1.symm.trans hfound)
    cases Option.some.inj (q2.symm.trans (State.methodFound?_of_named Y.fill (by decide)))
    cases Option.some.inj (q3.symm.trans hnNF)
    rw [Launch.admits_selectMethod X.admits]; exact q4
  obtain ⟨cellS0, hcS0, hiss⟩ := Y.statics
  obtain ⟨u0, hu0⟩ := Cond.staticRefV Y.unassigned L.unassignedStatic L.statics hcS0 hiss (a' (.isRef (.static Bundle.tN "UNASSIGNED_STACK" Bundle.steD)) (by simp [Bundle.npeArmAtoms]))
  obtain ⟨sen, hsen⟩ := Cond.staticRefV Y.sentinel L.sentinelStatic L.statics hcS0 hiss (a' (.isRef (.static Bundle.tN "SUPPRESSED_SENTINEL" Bundle.listD)) (by simp [Bundle.npeArmAtoms]))
  obtain ⟨ci198, i198, fB, hk198, hg198, ha198, hsB, -, hnB, htB, hffB⟩ := Cond.ownField (t := .object "java/lang/Object") Y.found L.cls (by decide +kernel) (a' (.fieldLink Bundle.tN 198 Bundle.tN "backtrace" Bundle.objD) (by simp [Bundle.npeArmAtoms])) (a' (.lays Bundle.tN Bundle.tN "backtrace" Bundle.objD) (by simp [Bundle.npeArmAtoms])) e.platform hpl
  obtain ⟨cellS, hcS', heS, -, hkeep⟩ := X.same.2.2.2.2.2 T.aS cellS0 hcS0
  have hcellS : W.heap[T.aS]? = some cellS := hcS'
  have hout' : ∀ i, (⟨T.aS, i⟩ : Loc) ∉ locs := fun i hmem => by
    have := hlocs _ hmem cellS0 hcS0
    rw [hiss] at this; cases this
  have hknownS : cellS.vm ≠ .unknown := by
    rw [heS]; intro hu
    rw [show cellS0.vm = .unknown from hu] at hiss
    cases hiss
  have hvU : cellS.slots[T.fUnassigned.slot]? = some u0.v := by rw [hkeep _ (hout' _)]; exact hu0
  have hvSen : cellS.slots[T.fSentinel.slot]? = some sen.v := by rw [hkeep _ (hout' _)]; exact hsen
  obtain ⟨tyC, dC, hdC, hdnC⟩ := Cond.laysAt hfound hk Y.cause (a' (.lays Bundle.nN Bundle.tN "cause" "Ljava/lang/Throwable;") (by simp [Bundle.npeArmAtoms]))
  obtain ⟨tyS, dS, hdS, hdnS⟩ := Cond.laysAt hfound hk Y.stack (a' (.lays Bundle.nN Bundle.tN "stackTrace" Bundle.steD) (by simp [Bundle.npeArmAtoms]))
  obtain ⟨tyP, dP, hdP, hdnP⟩ := Cond.laysAt hfound hk Y.supp (a' (.lays Bundle.nN Bundle.tN "suppressedExceptions" Bundle.listD) (by simp [Bundle.npeArmAtoms]))
  obtain ⟨tyX, dX, hdX, hdnX⟩ := Cond.laysAt hfound hk hffS (a' (.lays Bundle.nN Bundle.nN "extendedMessageState" "I") (by simp [Bundle.npeArmAtoms, Bundle.npeAtoms]))
  obtain ⟨hnX, htX⟩ := State.fieldFound?_type hffS (t := .int) (by decide +kernel)
  have xC := Cond.laysApart hdC hdX hdnC hdnX (by rw [hnX, Y.causeName]; decide)
  have xS := Cond.laysApart hdS hdX hdnS hdnX (by rw [hnX, Y.stackName]; decide)
  have xP := Cond.laysApart hdP hdX hdnP hdnX (by rw [hnX, Y.suppName]; decide)
  have hv0 : (freshCell P1.m.cls N.kN).slots[N.fState.slot]? = some (.int 0) := by
    have := fresh_default (c := P1.m.cls) tyX
    rw [htX] at this; exact this
  obtain ⟨tyB, dB, hdB, hdnB⟩ := Cond.laysAt hfound hk hffB (a' (.lays Bundle.nN Bundle.tN "backtrace" Bundle.objD) (by simp [Bundle.npeArmAtoms]))
  have bC := Cond.laysApart hdB hdC hdnB hdnC (by rw [hnB, Y.causeName]; decide)
  have bS := Cond.laysApart hdB hdS hdnB hdnS (by rw [hnB, Y.stackName]; decide)
  have bP := Cond.laysApart hdB hdP hdnB hdnP (by rw [hnB, Y.suppName]; decide)
  have bX := Cond.laysApart hdB hdX hdnB hdnX (by rw [hnB, hnX]; decide)
  have hbk : ((npeCell N.toNpeT (preparedCellV T.toThrowableT (freshCell P1.m.cls N.kN) W.heap.size u0 sen) W.cur).withEntry W.cur).slots[fB.slot]? = some .null := by
    have := fresh_default (c := P1.m.cls) tyB
    rw [htB] at this
    simpa [npeCell, preparedCellV, Cell.setSlot, Cell.withEntry, Array.getElem?_setIfInBounds, bC, bS, bP, bX, bC.symm, bS.symm, bP.symm, bX.symm, defaultValue] using this
  have tkC := Takes.of_laid (v := .ref W.heap.size) hk hordN tyC (by rw [Y.causeType]; rfl)
  have tkS := Takes.of_laid (v := u0.v) hk hordN tyS (by rw [Y.stackType]; exact fits_refV_array _ u0)
  have tkP := Takes.of_laid (v := sen.v) hk hordN tyP (by rw [Y.suppType]; exact fits_refV_object _ sen)
  have tkX := Takes.of_laid (v := .int 1) hk hordN tyX (by rw [htX]; rfl)
  have hskip : SkipFacts T e.platform s (fun u => u) u0 ((npeCell N.toNpeT (preparedCellV T.toThrowableT (freshCell P1.m.cls N.kN) W.heap.size u0 sen) W.cur).withEntry W.cur) := ⟨{ ci198 := ci198, i198 := i198, fBack := fB }, ⟨hk198, hg198, ha198, hsB⟩, hbk, fun _ _ => rfl⟩
  obtain ⟨vm', X3, st, -⟩ := X.throwsNpeColdBareVAt hexec hg hsize T L Z LZ N LN P1 L1 [PR, PE] hLs hlink1 ⟨hlinkR, hlinkE, trivial⟩ hfound hk hinit hordN hctor hsel0 hselF hcellS hknownS hvU hvSen
    hv0 xC xS xP tkC tkS tkP tkX Y.objLocals hskip (fun _ _ hA hW _ hroom _ hrest => L.nativeOff p htr hA hW hroom hrest) (by simpa using hRframes) hRlocals (by simp) hRcells (by rw [hn]; exact hRslots)
  have hlt : W.heap.size < ((W.pushCell (freshCell P1.m.cls N.kN)).setVm vm').heap.size := by
    show W.heap.size < (W.pushCell (freshCell P1.m.cls N.kN)).heap.size
    rw [State.heap_size_pushCell]; omega
  rw [hfsz] at X3
  obtain ⟨g₁, hfrM⟩ := X3.frames_eq
  have hU : ((((W.pushCell (freshCell P1.m.cls N.kN)).setVm vm').setCell W.heap.size (npeBareV T.toThrowableT N.toNpeT (freshCell P1.m.cls N.kN) W.heap.size u0 sen)).setTop g).pushFrame (.throwing W.heap.size) = (((W.pushCell (freshCell P1.m.cls N.kN)).setVm vm').setCell W.heap.size (npeBareV T.toThrowableT N.toNpeT (freshCell P1.m.cls N.kN) W.heap.size u0 sen)).setFrames (.throwing W.heap.size :: .java g :: below) := by
    rw [State.pushFrame, State.frames_setTop _ hfrM, State.setTop_of_frames _ hfrM, State.setFrames_setFrames]
  refine ⟨_, W.heap.size, _, fun target ht => st.trans (by rw [← hU]; exact ht), X3.forget (fun y hy => ?_), heapAt_setCell_self _ hlt, hfound, rfl⟩
  simp only [List.mem_cons, List.not_mem_nil, or_false] at hy
  have hge : s.heap.size ≤ W.heap.size := X.same.2.1
  rcases hy with rfl | rfl | rfl | rfl | rfl <;> exact hge
/-- the words of a machine's NullPointerException, but the four that speak of the heap -/
def vx_atN (n : Nat) : List Cond := (Bundle.npeArmAtoms n).filter vx_no
/-- the words of a machine's throw with a message, but the four that speak of the heap -/
def vx_atM (X : String) (names : List String) : List Cond := (Bundle.messageArmAtoms X names).filter vx_no
section
variable {p : Program} {l : Launch} {e : Env} {R : Room} {s : State} {m : MethodId} {args : Array Value} {below : List Frame} {meth : Method} {c : Code} {H : Heap} {locs : List Loc} {cells slots : Nat}
/-- a frame seen from a rebased start, seen from the first start again -/
theorem vx_back9 {T S : State} {R' : Room} {k n : Nat} (X : Stand p l e R s m args below meth c T locs cells slots) (Y : Stand p l e R' ((T.setVm s.vm).setFrames (.invoking m args :: below)) m args below meth c T [] 0 0) (Z : Stand p l e R' ((T.setVm s.vm).setFrames (.invoking m args :: below)) m args below meth c S [] k n) :
    Stand p l e R s m args below meth c S locs (cells + k) (slots + n) := by
  have hW0 : s.WarmedH ((T.setVm s.vm).setFrames (.invoking m args :: below)).vm := State.WarmedH.refl s
  refine { admits := X.admits, cas := X.cas, clock := X.clock, frames := X.frames, room := X.room, hears := X.hears, method := X.method, code := X.code, here := Z.here, tail := Z.tail, warmed := State.WarmedH.trans hW0 Z.warmed, limits := Z.limits.trans (Y.limits.symm.trans X.limits), bytes := Z.bytes.trans (Y.bytes.symm.trans X.bytes), same := ?_ }
  obtain ⟨e1, e2⟩ := Z.same
  rw [State.setFrames_setFrames] at e1
  have h2 : (T.setVm s.vm).sameButNew (S.setVm s.vm) [] k n := ⟨e1, e2⟩
  have h3 := X.same.trans h2
  rw [List.append_nil] at h3
  exact h3
/-- from the machine's note that E is thrown here with this text -/
def vx_Note (p : Program) (l : Launch) (e : Env) (R : Room) (s : State) (m : MethodId) (args : Array Value) (below : List Frame) (meth : Method) (c : Code) (H : Heap) (locs : List Loc) (cells slots : Nat) (Q : State → Prop) (g : JFrame) (E text : String) : Prop :=
  ∀ T : State, T.heap = H → Stand p l e R s m args below meth c T locs cells slots → ∃ t, Steps p.tables e below ((T.setTop g).pushFrame (.throwNew E (some text) none)) t ∧ Q t
theorem vx_vm {pc : Nat} {ls : Array Slot} {rest : List Value} {Q : State → Prop} (hexec : p.tables.exec = Jvm.exec) (hl : l.stackTraces = false) {cls text : String} {names : List String} {nb : Nat} {A : Nat → Prop}
    (hcls : Bundle.fit cls = true) (hnames : ∀ n ∈ names, Bundle.fit n = true) (hsoe : (cls == "java/lang/StackOverflowError") = false) (hoom : (cls == "java/lang/OutOfMemoryError") = false)
    (hat : ∀ w ∈ vx_atM cls names, w.before args s = true) (hgood : ∀ w ∈ vx_atM cls names, vx_ot w = true)
    (hU : vx_Zq Bundle.tN "UNASSIGNED_STACK" Bundle.steD A s s.heap) (hN : vx_Zq Bundle.tN "SUPPRESSED_SENTINEL" Bundle.listD A s s.heap) (hS : va_S A s.heap H locs) (hsize : ls.size = c.maxLocals)
    (htext : (text == notModelled) = false) (hnb : (stringBytes (stringToUtf16 text)).size ≤ nb) (hnb1 : nb ≤ 1000)
    (hRframes : names.length + 4 < R.frames) (hRlocals : (rest.map fun v => v.category).sum + 10240 ≤ R.locals) (hshort : 13 * names.length + 55 ≤ 10240) (hRcells : cells + 3 ≤ R.cells) (hRslots : slots + (nb + 10) ≤ R.slots) (hlocks : meth.locks = false)
    (k : ∀ (H1 : Heap) (q9 : Addr) (ce : Cell), H.size ≤ H1.size → (∀ q : Nat, q < H.size → H1[q]? = H[q]?) → va_S A s.heap H1 locs → H1[q9]? = some ce → ce.vm = .none → s.vm.findClass cls = some ce.cls → vx_W p l e R s m args below meth c H1 locs (cells + 3) (slots + (nb + 10)) Q (F0 m pc ls rest) q9) :
    vx_Note p l e R s m args below meth c H locs cells slots Q (F0 m pc ls rest) cls text := by
  intro T hT X
  have htr : e.platform.stackTraces = false := (show e.platform.stackTraces = l.stackTraces by rw [X.admits.platform]).trans hl
  have Y := vx_rebase X (R' := { frames := R.frames, locals := R.locals, cells := 3, slots := nb + 10 }) (Nat.le_refl _) (Nat.le_refl _) hRcells hRslots
  have hhp : ((T.setVm s.vm).setFrames (.invoking m args :: below)).heap = H := hT
  have hW0 : s.WarmedH ((T.setVm s.vm).setFrames (.invoking m args :: below)).vm := State.WarmedH.refl s
  have hat' : ∀ w ∈ vx_atM cls names, w.before args ((T.setVm s.vm).setFrames (.invoking m args :: below)) = true := fun w hw => vx_ot_at hW0 rfl (hgood w hw) (hat w hw)
  have hU' : vx_Zq Bundle.tN "UNASSIGNED_STACK" Bundle.steD A ((T.setVm s.vm).setFrames (.invoking m args :: below)) ((T.setVm s.vm).setFrames (.invoking m args :: below)).heap := by rw [hhp]; exact vx_Zq.moved hW0.alike (hU.kept hS.2.1)
  have hN' : vx_Zq Bundle.tN "SUPPRESSED_SENTINEL" Bundle.listD A ((T.setVm s.vm).setFrames (.invoking m args :: below)) ((T.setVm s.vm).setFrames (.invoking m args :: below)).heap := by rw [hhp]; exact vx_Zq.moved hW0.alike (hN.kept hS.2.1)
  obtain ⟨S, q, ce, st, Z, hce, hcl', hv⟩ := vx_vmAt Y hexec htr (cls := cls) (names := names) (text := text) hcls hnames hsoe hoom (vx_own hat' (vx_isRefq hU'.1) (vx_isRefq hN'.1) hU'.2.word hN'.2.word) (fun x hx => nomatch hx) htext
    (by rw [Launch.admits_arrayLengthLimit X.admits]; omega) (by rw [Launch.admits_maxHeapBytes X.admits]; simp only [componentBytes]; omega)
    (g := F0 m pc ls rest) rfl hsize hRframes (by show 2 * 0 + (rest.map fun v => v.category).sum + 10240 ≤ R.locals; omega) hshort (by show 0 + 3 ≤ 3; omega) (by show 0 + (_ + 4 + 6) ≤ nb + 10; omega) hlocks
  obtain ⟨f1, f2⟩ := vx_frame Z.same
  have f1' : H.size ≤ S.heap.size := by rw [← hT]; exact f1
  have f2' : ∀ q : Nat, q < H.size → S.heap[q]? = H[q]? := fun q hq => by
    rw [← hT]
    exact f2 q (by rw [← hT] at hq; exact hq) (fun z hz => nomatch hz)
  have X5 := vx_back9 X Y Z
  have X6 : Stand p l e R s m args below meth c S locs (cells + 3) (slots + (nb + 10)) := { X5 with same := X5.same.mono (by omega) (by omega) }
  obtain ⟨t, a1, b1⟩ := k S.heap q ce f1' f2' ⟨Nat.le_trans hS.1 f1', fun q h1 h2 => (f2' q (Nat.lt_of_lt_of_le h1 hS.1)).trans (hS.2.1 q h1 h2), hS.2.2⟩ hce hv hcl' S rfl X6
  exact ⟨t, st t a1, b1⟩
/-- from the machine's note that NullPointerException is thrown here -/
def vx_NoteN (p : Program) (l : Launch) (e : Env) (R : Room) (s : State) (m : MethodId) (args : Array Value) (below : List Frame) (meth : Method) (c : Code) (H : Heap) (locs : List Loc) (cells slots : Nat) (Q : State → Prop) (g : JFrame) : Prop :=
  ∀ T : State, T.heap = H → Stand p l e R s m args below meth c T locs cells slots → ∃ t, Steps p.tables e below ((T.setTop g).pushFrame (.throwNew "java/lang/NullPointerException" none none)) t ∧ Q t
theorem vx_npe {pc : Nat} {ls : Array Slot} {rest : List Value} {Q : State → Prop} (hexec : p.tables.exec = Jvm.exec) (hl : l.stackTraces = false) {nb : Nat} {A : Nat → Prop}
    (hat : ∀ w ∈ vx_atN nb, w.before args s = true) (hgood : ∀ w ∈ vx_atN nb, vx_ot w = true)
    (hU : vx_Zq Bundle.tN "UNASSIGNED_STACK" Bundle.steD A s s.heap) (hN : vx_Zq Bundle.tN "SUPPRESSED_SENTINEL" Bundle.listD A s s.heap) (hS : va_S A s.heap H locs) (hsize : ls.size = c.maxLocals)
    (hRframes : 7 < R.frames) (hRlocals : (rest.map fun v => v.category).sum + 10240 ≤ R.locals) (hRcells : cells + 1 ≤ R.cells) (hRslots : slots + nb ≤ R.slots) (hlocks : meth.locks = false)
    (k : ∀ (H1 : Heap) (q9 : Addr) (ce : Cell), H.size ≤ H1.size → (∀ q : Nat, q < H.size → H1[q]? = H[q]?) → va_S A s.heap H1 locs → H1[q9]? = some ce → ce.vm = .none → s.vm.findClass "java/lang/NullPointerException" = some ce.cls → vx_W p l e R s m args below meth c H1 locs (cells + 1) (slots + nb) Q (F0 m pc ls rest) q9) :
    vx_NoteN p l e R s m args below meth c H locs cells slots Q (F0 m pc ls rest) := by
  intro T hT X
  have htr : e.platform.stackTraces = false := (show e.platform.stackTraces = l.stackTraces by rw [X.admits.platform]).trans hl
  have Y := vx_rebase X (R' := { frames := R.frames, locals := R.locals, cells := 1, slots := nb }) (Nat.le_refl _) (Nat.le_refl _) hRcells hRslots
  have hhp : ((T.setVm s.vm).setFrames (.invoking m args :: below)).heap = H := hT
  have hW0 : s.WarmedH ((T.setVm s.vm).setFrames (.invoking m args :: below)).vm := State.WarmedH.refl s
  have hat' : ∀ w ∈ vx_atN nb, w.before args ((T.setVm s.vm).setFrames (.invoking m args :: below)) = true := fun w hw => vx_ot_at hW0 rfl (hgood w hw) (hat w hw)
  have hU' : vx_Zq Bundle.tN "UNASSIGNED_STACK" Bundle.steD A ((T.setVm s.vm).setFrames (.invoking m args :: below)) ((T.setVm s.vm).setFrames (.invoking m args :: below)).heap := by rw [hhp]; exact vx_Zq.moved hW0.alike (hU.kept hS.2.1)
  have hN' : vx_Zq Bundle.tN "SUPPRESSED_SENTINEL" Bundle.listD A ((T.setVm s.vm).setFrames (.invoking m args :: below)) ((T.setVm s.vm).setFrames (.invoking m args :: below)).heap := by rw [hhp]; exact vx_Zq.moved hW0.alike (hN.kept hS.2.1)
  obtain ⟨S, q, ce, st, Z, hce, hcl', hv⟩ := vx_npeAt Y hexec htr (n := nb) (vx_own hat' (vx_isRefq hU'.1) (vx_isRefq hN'.1) hU'.2.word hN'.2.word) (fun x hx => nomatch hx)
    (g := F0 m pc ls rest) rfl hsize hRframes (by show 2 * 0 + (rest.map fun v => v.category).sum + 10240 ≤ R.locals; omega) (by show 0 + 1 ≤ 1; omega) (by show 0 + nb ≤ nb; omega) hlocks
  obtain ⟨f1, f2⟩ := vx_frame Z.same
  have f1' : H.size ≤ S.heap.size := by rw [← hT]; exact f1
  have f2' : ∀ q : Nat, q < H.size → S.heap[q]? = H[q]? := fun q hq => by
    rw [← hT]
    exact f2 q (by rw [← hT] at hq; exact hq) (fun z hz => nomatch hz)
  have X5 := vx_back9 X Y Z
  have X6 : Stand p l e R s m args below meth c S locs (cells + 1) (slots + nb) := { X5 with same := X5.same.mono (by omega) (by omega) }
  obtain ⟨t, a1, b1⟩ := k S.heap q ce f1' f2' ⟨Nat.le_trans hS.1 f1', fun q h1 h2 => (f2' q (Nat.lt_of_lt_of_le h1 hS.1)).trans (hS.2.1 q h1 h2), hS.2.2⟩ hce hv hcl' S rfl X6
  exact ⟨t, st t a1, b1⟩
variable {Q : State → Prop} {cc : ByteArray} {pc : Nat} {ls : Array Slot} {rest : List Value}
theorem vx_idivZ (hexec : p.tables.exec = Jvm.exec) (hb : c.code = cc) {a b : Int32} (h0 : b = 0) (d : decode cc pc = .ok (.idiv, 1)) (k : vx_Note p l e R s m args below meth c H locs cells slots Q (F0 m pc ls rest) "java/lang/ArithmeticException" "/ by zero") :
    W p l e R s m args below meth c H locs cells slots Q (F0 m pc ls (.int b :: .int a :: rest)) := by
  intro T hT X
  obtain ⟨t, st, q⟩ := k T hT X
  exact ⟨t, X.idivZero hexec (g := F0 m pc ls (.int b :: .int a :: rest)) rfl (a := a) (rest := rest) (by rw [h0]) (by rw [hb]; exact d) t st, q⟩
theorem vx_iremZ (hexec : p.tables.exec = Jvm.exec) (hb : c.code = cc) {a b : Int32} (h0 : b = 0) (d : decode cc pc = .ok (.irem, 1)) (k : vx_Note p l e R s m args below meth c H locs cells slots Q (F0 m pc ls rest) "java/lang/ArithmeticException" "/ by zero") :
    W p l e R s m args below meth c H locs cells slots Q (F0 m pc ls (.int b :: .int a :: rest)) := by
  intro T hT X
  obtain ⟨t, st, q⟩ := k T hT X
  exact ⟨t, X.iremZero hexec (g := F0 m pc ls (.int b :: .int a :: rest)) rfl (a := a) (rest := rest) (by rw [h0]) (by rw [hb]; exact d) t st, q⟩
theorem vx_ldivZ (hexec : p.tables.exec = Jvm.exec) (hb : c.code = cc) {a b : Int64} (h0 : b = 0) (d : decode cc pc = .ok (.ldiv, 1)) (k : vx_Note p l e R s m args below meth c H locs cells slots Q (F0 m pc ls rest) "java/lang/ArithmeticException" "/ by zero") :
    W p l e R s m args below meth c H locs cells slots Q (F0 m pc ls (.long b :: .long a :: rest)) := by
  intro T hT X
  obtain ⟨t, st, q⟩ := k T hT X
  exact ⟨t, X.ldivZero hexec (g := F0 m pc ls (.long b :: .long a :: rest)) rfl (a := a) (rest := rest) (by rw [h0]) (by rw [hb]; exact d) t st, q⟩
theorem vx_lremZ (hexec : p.tables.exec = Jvm.exec) (hb : c.code = cc) {a b : Int64} (h0 : b = 0) (d : decode cc pc = .ok (.lrem, 1)) (k : vx_Note p l e R s m args below meth c H locs cells slots Q (F0 m pc ls rest) "java/lang/ArithmeticException" "/ by zero") :
    W p l e R s m args below meth c H locs cells slots Q (F0 m pc ls (.long b :: .long a :: rest)) := by
  intro T hT X
  obtain ⟨t, st, q⟩ := k T hT X
  exact ⟨t, X.lremZero hexec (g := F0 m pc ls (.long b :: .long a :: rest)) rfl (a := a) (rest := rest) (by rw [h0]) (by rw [hb]; exact d) t st, q⟩
theorem vx_ialdZ {D : va_G} {cl : List vw_C} {ws : va_W} {tys : List (ClassId × FieldType)} {a : Nat} (hexec : p.tables.exec = Jvm.exec) (hb : c.code = cc) (hK : va_K D cl tys s) (hP : va_P D cl ws H) (q0 t0 : Nat) {cA : ClassId} {n : Nat} {f : Nat → Int32} (ha : ws[q0]? = some (a, .inl (cA, n, .inl f))) (ht : tys[t0]? = some (cA, .int)) {i : Int32} (hout : ¬ vp_in i n) (hdg : decode cc pc = .ok (.iaload, 1))
    (k : ∀ tx : String, tx = (toString "Index " ++ toString i ++ toString " out of bounds for length " ++ toString n : String) → vx_Note p l e R s m args below meth c H locs cells slots Q (F0 m pc ls rest) "java/lang/ArrayIndexOutOfBoundsException" tx) : W p l e R s m args below meth c H locs cells slots Q (F0 m pc ls (.int i :: .ref a :: rest)) := by
  intro T hT X
  obtain ⟨t, st, q⟩ := k _ rfl T hT X
  refine ⟨t, ?_, q⟩
  have h1 := X.ialoadOut hexec (by rw [hT]; exact hP q0 _ ha) ((hK.2 t0 _ ht).1 n (fun j => .int (f j))) (j := i) (by show (i < 0 ∨ (arrV _ _ _).slots.size ≤ _); rw [arrV_size]; exact Classical.byContradiction hout) (g := F0 m pc ls (.int i :: .ref a :: rest)) rfl (rest := rest) rfl (by rw [hb]; exact hdg) t
  simp only [arrV_size] at h1
  exact h1 st
theorem vx_iastZ {D : va_G} {cl : List vw_C} {ws : va_W} {tys : List (ClassId × FieldType)} {a : Nat} (hexec : p.tables.exec = Jvm.exec) (hb : c.code = cc) (hK : va_K D cl tys s) (hP : va_P D cl ws H) (q0 t0 : Nat) {cA : ClassId} {n : Nat} {f : Nat → Int32} (ha : ws[q0]? = some (a, .inl (cA, n, .inl f))) (ht : tys[t0]? = some (cA, .int)) {i : Int32} {x : Int32} (hout : ¬ vp_in i n) (hdg : decode cc pc = .ok (.iastore, 1))
    (k : ∀ tx : String, tx = (toString "Index " ++ toString i ++ toString " out of bounds for length " ++ toString n : String) → vx_Note p l e R s m args below meth c H locs cells slots Q (F0 m pc ls rest) "java/lang/ArrayIndexOutOfBoundsException" tx) : W p l e R s m args below meth c H locs cells slots Q (F0 m pc ls (.int x :: .int i :: .ref a :: rest)) := by
  intro T hT X
  obtain ⟨t, st, q⟩ := k _ rfl T hT X
  refine ⟨t, ?_, q⟩
  have h1 := X.iastoreOut hexec (by rw [hT]; exact hP q0 _ ha) ((hK.2 t0 _ ht).1 n (fun j => .int (f j))) (j := i) (by show (i < 0 ∨ (arrV _ _ _).slots.size ≤ _); rw [arrV_size]; exact Classical.byContradiction hout) (g := F0 m pc ls (.int x :: .int i :: .ref a :: rest)) rfl (rest := rest) rfl (by rw [hb]; exact hdg) t
  simp only [arrV_size] at h1
  exact h1 st
theorem vx_baldZ {D : va_G} {cl : List vw_C} {ws : va_W} {tys : List (ClassId × FieldType)} {a : Nat} (hexec : p.tables.exec = Jvm.exec) (hb : c.code = cc) (hK : va_K D cl tys s) (hP : va_P D cl ws H) (q0 t0 : Nat) {cA : ClassId} {n : Nat} {f : Nat → Int32} (ha : ws[q0]? = some (a, .inl (cA, n, .inl f))) (ht : tys[t0]? = some (cA, .byte)) {i : Int32} (hout : ¬ vp_in i n) (hdg : decode cc pc = .ok (.baload, 1))
    (k : ∀ tx : String, tx = (toString "Index " ++ toString i ++ toString " out of bounds for length " ++ toString n : String) → vx_Note p l e R s m args below meth c H locs cells slots Q (F0 m pc ls rest) "java/lang/ArrayIndexOutOfBoundsException" tx) : W p l e R s m args below meth c H locs cells slots Q (F0 m pc ls (.int i :: .ref a :: rest)) := by
  intro T hT X
  obtain ⟨t, st, q⟩ := k _ rfl T hT X
  refine ⟨t, ?_, q⟩
  have h1 := X.baloadOut hexec (by rw [hT]; exact hP q0 _ ha) ((hK.2 t0 _ ht).1 n (fun j => .int (f j))) (j := i) (by show (i < 0 ∨ (arrV _ _ _).slots.size ≤ _); rw [arrV_size]; exact Classical.byContradiction hout) (g := F0 m pc ls (.int i :: .ref a :: rest)) rfl (rest := rest) rfl (by rw [hb]; exact hdg) t
  simp only [arrV_size] at h1
  exact h1 st
theorem vx_bastZ {D : va_G} {cl : List vw_C} {ws : va_W} {tys : List (ClassId × FieldType)} {a : Nat} (hexec : p.tables.exec = Jvm.exec) (hb : c.code = cc) (hK : va_K D cl tys s) (hP : va_P D cl ws H) (q0 t0 : Nat) {cA : ClassId} {n : Nat} {f : Nat → Int32} (ha : ws[q0]? = some (a, .inl (cA, n, .inl f))) (ht : tys[t0]? = some (cA, .byte)) {i : Int32} {x : Int32} (hout : ¬ vp_in i n) (hdg : decode cc pc = .ok (.bastore, 1))
    (k : ∀ tx : String, tx = (toString "Index " ++ toString i ++ toString " out of bounds for length " ++ toString n : String) → vx_Note p l e R s m args below meth c H locs cells slots Q (F0 m pc ls rest) "java/lang/ArrayIndexOutOfBoundsException" tx) : W p l e R s m args below meth c H locs cells slots Q (F0 m pc ls (.int x :: .int i :: .ref a :: rest)) := by
  intro T hT X
  obtain ⟨t, st, q⟩ := k _ rfl T hT X
  refine ⟨t, ?_, q⟩
  have h1 := X.bastoreOut hexec (by rw [hT]; exact hP q0 _ ha) ((hK.2 t0 _ ht).1 n (fun j => .int (f j))) (j := i) (by show (i < 0 ∨ (arrV _ _ _).slots.size ≤ _); rw [arrV_size]; exact Classical.byContradiction hout) (g := F0 m pc ls (.int x :: .int i :: .ref a :: rest)) rfl (rest := rest) rfl (by rw [hb]; exact hdg) t
  simp only [arrV_size] at h1
  exact h1 st
theorem vx_zaldZ {D : va_G} {cl : List vw_C} {ws : va_W} {tys : List (ClassId × FieldType)} {a : Nat} (hexec : p.tables.exec = Jvm.exec) (hb : c.code = cc) (hK : va_K D cl tys s) (hP : va_P D cl ws H) (q0 t0 : Nat) {cA : ClassId} {n : Nat} {f : Nat → Int32} (ha : ws[q0]? = some (a, .inl (cA, n, .inl f))) (ht : tys[t0]? = some (cA, .boolean)) {i : Int32} (hout : ¬ vp_in i n) (hdg : decode cc pc = .ok (.baload, 1))
    (k : ∀ tx : String, tx = (toString "Index " ++ toString i ++ toString " out of bounds for length " ++ toString n : String) → vx_Note p l e R s m args below meth c H locs cells slots Q (F0 m pc ls rest) "java/lang/ArrayIndexOutOfBoundsException" tx) : W p l e R s m args below meth c H locs cells slots Q (F0 m pc ls (.int i :: .ref a :: rest)) := by
  intro T hT X
  obtain ⟨t, st, q⟩ := k _ rfl T hT X
  refine ⟨t, ?_, q⟩
  have h1 := X.baloadOut hexec (by rw [hT]; exact hP q0 _ ha) ((hK.2 t0 _ ht).1 n (fun j => .int (f j))) (j := i) (by show (i < 0 ∨ (arrV _ _ _).slots.size ≤ _); rw [arrV_size]; exact Classical.byContradiction hout) (g := F0 m pc ls (.int i :: .ref a :: rest)) rfl (rest := rest) rfl (by rw [hb]; exact hdg) t
  simp only [arrV_size] at h1
  exact h1 st
theorem vx_zastZ {D : va_G} {cl : List vw_C} {ws : va_W} {tys : List (ClassId × FieldType)} {a : Nat} (hexec : p.tables.exec = Jvm.exec) (hb : c.code = cc) (hK : va_K D cl tys s) (hP : va_P D cl ws H) (q0 t0 : Nat) {cA : ClassId} {n : Nat} {f : Nat → Int32} (ha : ws[q0]? = some (a, .inl (cA, n, .inl f))) (ht : tys[t0]? = some (cA, .boolean)) {i : Int32} {x : Int32} (hout : ¬ vp_in i n) (hdg : decode cc pc = .ok (.bastore, 1))
    (k : ∀ tx : String, tx = (toString "Index " ++ toString i ++ toString " out of bounds for length " ++ toString n : String) → vx_Note p l e R s m args below meth c H locs cells slots Q (F0 m pc ls rest) "java/lang/ArrayIndexOutOfBoundsException" tx) : W p l e R s m args below meth c H locs cells slots Q (F0 m pc ls (.int x :: .int i :: .ref a :: rest)) := by
  intro T hT X
  obtain ⟨t, st, q⟩ := k _ rfl T hT X
  refine ⟨t, ?_, q⟩
  have h1 := X.bastoreOut hexec (by rw [hT]; exact hP q0 _ ha) ((hK.2 t0 _ ht).1 n (fun j => .int (f j))) (j := i) (by show (i < 0 ∨ (arrV _ _ _).slots.size ≤ _); rw [arrV_size]; exact Classical.byContradiction hout) (g := F0 m pc ls (.int x :: .int i :: .ref a :: rest)) rfl (rest := rest) rfl (by rw [hb]; exact hdg) t
  simp only [arrV_size] at h1
  exact h1 st
theorem vx_caldZ {D : va_G} {cl : List vw_C} {ws : va_W} {tys : List (ClassId × FieldType)} {a : Nat} (hexec : p.tables.exec = Jvm.exec) (hb : c.code = cc) (hK : va_K D cl tys s) (hP : va_P D cl ws H) (q0 t0 : Nat) {cA : ClassId} {n : Nat} {f : Nat → Int32} (ha : ws[q0]? = some (a, .inl (cA, n, .inl f))) (ht : tys[t0]? = some (cA, .char)) {i : Int32} (hout : ¬ vp_in i n) (hdg : decode cc pc = .ok (.caload, 1))
    (k : ∀ tx : String, tx = (toString "Index " ++ toString i ++ toString " out of bounds for length " ++ toString n : String) → vx_Note p l e R s m args below meth c H locs cells slots Q (F0 m pc ls rest) "java/lang/ArrayIndexOutOfBoundsException" tx) : W p l e R s m args below meth c H locs cells slots Q (F0 m pc ls (.int i :: .ref a :: rest)) := by
  intro T hT X
  obtain ⟨t, st, q⟩ := k _ rfl T hT X
  refine ⟨t, ?_, q⟩
  have h1 := X.caloadOut hexec (by rw [hT]; exact hP q0 _ ha) ((hK.2 t0 _ ht).1 n (fun j => .int (f j))) (j := i) (by show (i < 0 ∨ (arrV _ _ _).slots.size ≤ _); rw [arrV_size]; exact Classical.byContradiction hout) (g := F0 m pc ls (.int i :: .ref a :: rest)) rfl (rest := rest) rfl (by rw [hb]; exact hdg) t
  simp only [arrV_size] at h1
  exact h1 st
theorem vx_castZ {D : va_G} {cl : List vw_C} {ws : va_W} {tys : List (ClassId × FieldType)} {a : Nat} (hexec : p.tables.exec = Jvm.exec) (hb : c.code = cc) (hK : va_K D cl tys s) (hP : va_P D cl ws H) (q0 t0 : Nat) {cA : ClassId} {n : Nat} {f : Nat → Int32} (ha : ws[q0]? = some (a, .inl (cA, n, .inl f))) (ht : tys[t0]? = some (cA, .char)) {i : Int32} {x : Int32} (hout : ¬ vp_in i n) (hdg : decode cc pc = .ok (.castore, 1))
    (k : ∀ tx : String, tx = (toString "Index " ++ toString i ++ toString " out of bounds for length " ++ toString n : String) → vx_Note p l e R s m args below meth c H locs cells slots Q (F0 m pc ls rest) "java/lang/ArrayIndexOutOfBoundsException" tx) : W p l e R s m args below meth c H locs cells slots Q (F0 m pc ls (.int x :: .int i :: .ref a :: rest)) := by
  intro T hT X
  obtain ⟨t, st, q⟩ := k _ rfl T hT X
  refine ⟨t, ?_, q⟩
  have h1 := X.castoreOut hexec (by rw [hT]; exact hP q0 _ ha) ((hK.2 t0 _ ht).1 n (fun j => .int (f j))) (j := i) (by show (i < 0 ∨ (arrV _ _ _).slots.size ≤ _); rw [arrV_size]; exact Classical.byContradiction hout) (g := F0 m pc ls (.int x :: .int i :: .ref a :: rest)) rfl (rest := rest) rfl (by rw [hb]; exact hdg) t
  simp only [arrV_size] at h1
  exact h1 st
theorem vx_saldZ {D : va_G} {cl : List vw_C} {ws : va_W} {tys : List (ClassId × FieldType)} {a : Nat} (hexec : p.tables.exec = Jvm.exec) (hb : c.code = cc) (hK : va_K D cl tys s) (hP : va_P D cl ws H) (q0 t0 : Nat) {cA : ClassId} {n : Nat} {f : Nat → Int32} (ha : ws[q0]? = some (a, .inl (cA, n, .inl f))) (ht : tys[t0]? = some (cA, .short)) {i : Int32} (hout : ¬ vp_in i n) (hdg : decode cc pc = .ok (.saload, 1))
    (k : ∀ tx : String, tx = (toString "Index " ++ toString i ++ toString " out of bounds for length " ++ toString n : String) → vx_Note p l e R s m args below meth c H locs cells slots Q (F0 m pc ls rest) "java/lang/ArrayIndexOutOfBoundsException" tx) : W p l e R s m args below meth c H locs cells slots Q (F0 m pc ls (.int i :: .ref a :: rest)) := by
  intro T hT X
  obtain ⟨t, st, q⟩ := k _ rfl T hT X
  refine ⟨t, ?_, q⟩
  have h1 := X.saloadOut hexec (by rw [hT]; exact hP q0 _ ha) ((hK.2 t0 _ ht).1 n (fun j => .int (f j))) (j := i) (by show (i < 0 ∨ (arrV _ _ _).slots.size ≤ _); rw [arrV_size]; exact Classical.byContradiction hout) (g := F0 m pc ls (.int i :: .ref a :: rest)) rfl (rest := rest) rfl (by rw [hb]; exact hdg) t
  simp only [arrV_size] at h1
  exact h1 st
theorem vx_sastZ {D : va_G} {cl : List vw_C} {ws : va_W} {tys : List (ClassId × FieldType)} {a : Nat} (hexec : p.tables.exec = Jvm.exec) (hb : c.code = cc) (hK : va_K D cl tys s) (hP : va_P D cl ws H) (q0 t0 : Nat) {cA : ClassId} {n : Nat} {f : Nat → Int32} (ha : ws[q0]? = some (a, .inl (cA, n, .inl f))) (ht : tys[t0]? = some (cA, .short)) {i : Int32} {x : Int32} (hout : ¬ vp_in i n) (hdg : decode cc pc = .ok (.sastore, 1))
    (k : ∀ tx : String, tx = (toString "Index " ++ toString i ++ toString " out of bounds for length " ++ toString n : String) → vx_Note p l e R s m args below meth c H locs cells slots Q (F0 m pc ls rest) "java/lang/ArrayIndexOutOfBoundsException" tx) : W p l e R s m args below meth c H locs cells slots Q (F0 m pc ls (.int x :: .int i :: .ref a :: rest)) := by
  intro T hT X
  obtain ⟨t, st, q⟩ := k _ rfl T hT X
  refine ⟨t, ?_, q⟩
  have h1 := X.sastoreOut hexec (by rw [hT]; exact hP q0 _ ha) ((hK.2 t0 _ ht).1 n (fun j => .int (f j))) (j := i) (by show (i < 0 ∨ (arrV _ _ _).slots.size ≤ _); rw [arrV_size]; exact Classical.byContradiction hout) (g := F0 m pc ls (.int x :: .int i :: .ref a :: rest)) rfl (rest := rest) rfl (by rw [hb]; exact hdg) t
  simp only [arrV_size] at h1
  exact h1 st
theorem vx_laldZ {D : va_G} {cl : List vw_C} {ws : va_W} {tys : List (ClassId × FieldType)} {a : Nat} (hexec : p.tables.exec = Jvm.exec) (hb : c.code = cc) (hK : va_K D cl tys s) (hP : va_P D cl ws H) (q0 t0 : Nat) {cA : ClassId} {n : Nat} {f : Nat → Int64} (ha : ws[q0]? = some (a, .inl (cA, n, .inr (.inl f)))) (ht : tys[t0]? = some (cA, .long)) {i : Int32} (hout : ¬ vp_in i n) (hdg : decode cc pc = .ok (.laload, 1))
    (k : ∀ tx : String, tx = (toString "Index " ++ toString i ++ toString " out of bounds for length " ++ toString n : String) → vx_Note p l e R s m args below meth c H locs cells slots Q (F0 m pc ls rest) "java/lang/ArrayIndexOutOfBoundsException" tx) : W p l e R s m args below meth c H locs cells slots Q (F0 m pc ls (.int i :: .ref a :: rest)) := by
  intro T hT X
  obtain ⟨t, st, q⟩ := k _ rfl T hT X
  refine ⟨t, ?_, q⟩
  have h1 := X.laloadOut hexec (by rw [hT]; exact hP q0 _ ha) ((hK.2 t0 _ ht).1 n (fun j => .long (f j))) (j := i) (by show (i < 0 ∨ (arrV _ _ _).slots.size ≤ _); rw [arrV_size]; exact Classical.byContradiction hout) (g := F0 m pc ls (.int i :: .ref a :: rest)) rfl (rest := rest) rfl (by rw [hb]; exact hdg) t
  simp only [arrV_size] at h1
  exact h1 st
theorem vx_lastZ {D : va_G} {cl : List vw_C} {ws : va_W} {tys : List (ClassId × FieldType)} {a : Nat} (hexec : p.tables.exec = Jvm.exec) (hb : c.code = cc) (hK : va_K D cl tys s) (hP : va_P D cl ws H) (q0 t0 : Nat) {cA : ClassId} {n : Nat} {f : Nat → Int64} (ha : ws[q0]? = some (a, .inl (cA, n, .inr (.inl f)))) (ht : tys[t0]? = some (cA, .long)) {i : Int32} {x : Int64} (hout : ¬ vp_in i n) (hdg : decode cc pc = .ok (.lastore, 1))
    (k : ∀ tx : String, tx = (toString "Index " ++ toString i ++ toString " out of bounds for length " ++ toString n : String) → vx_Note p l e R s m args below meth c H locs cells slots Q (F0 m pc ls rest) "java/lang/ArrayIndexOutOfBoundsException" tx) : W p l e R s m args below meth c H locs cells slots Q (F0 m pc ls (.long x :: .int i :: .ref a :: rest)) := by
  intro T hT X
  obtain ⟨t, st, q⟩ := k _ rfl T hT X
  refine ⟨t, ?_, q⟩
  have h1 := X.lastoreOut hexec (by rw [hT]; exact hP q0 _ ha) ((hK.2 t0 _ ht).1 n (fun j => .long (f j))) (j := i) (by show (i < 0 ∨ (arrV _ _ _).slots.size ≤ _); rw [arrV_size]; exact Classical.byContradiction hout) (g := F0 m pc ls (.long x :: .int i :: .ref a :: rest)) rfl (rest := rest) rfl (by rw [hb]; exact hdg) t
  simp only [arrV_size] at h1
  exact h1 st
theorem vx_faldZ {D : va_G} {cl : List vw_C} {ws : va_W} {tys : List (ClassId × FieldType)} {a : Nat} (hexec : p.tables.exec = Jvm.exec) (hb : c.code = cc) (hK : va_K D cl tys s) (hP : va_P D cl ws H) (q0 t0 : Nat) {cA : ClassId} {n : Nat} {f : Nat → UInt32} (ha : ws[q0]? = some (a, .inl (cA, n, .inr (.inr (.inl f))))) (ht : tys[t0]? = some (cA, .float)) {i : Int32} (hout : ¬ vp_in i n) (hdg : decode cc pc = .ok (.faload, 1))
    (k : ∀ tx : String, tx = (toString "Index " ++ toString i ++ toString " out of bounds for length " ++ toString n : String) → vx_Note p l e R s m args below meth c H locs cells slots Q (F0 m pc ls rest) "java/lang/ArrayIndexOutOfBoundsException" tx) : W p l e R s m args below meth c H locs cells slots Q (F0 m pc ls (.int i :: .ref a :: rest)) := by
  intro T hT X
  obtain ⟨t, st, q⟩ := k _ rfl T hT X
  refine ⟨t, ?_, q⟩
  have h1 := X.faloadOut hexec (by rw [hT]; exact hP q0 _ ha) ((hK.2 t0 _ ht).1 n (fun j => .float (f j))) (j := i) (by show (i < 0 ∨ (arrV _ _ _).slots.size ≤ _); rw [arrV_size]; exact Classical.byContradiction hout) (g := F0 m pc ls (.int i :: .ref a :: rest)) rfl (rest := rest) rfl (by rw [hb]; exact hdg) t
  simp only [arrV_size] at h1
  exact h1 st
theorem vx_fastZ {D : va_G} {cl : List vw_C} {ws : va_W} {tys : List (ClassId × FieldType)} {a : Nat} (hexec : p.tables.exec = Jvm.exec) (hb : c.code = cc) (hK : va_K D cl tys s) (hP : va_P D cl ws H) (q0 t0 : Nat) {cA : ClassId} {n : Nat} {f : Nat → UInt32} (ha : ws[q0]? = some (a, .inl (cA, n, .inr (.inr (.inl f))))) (ht : tys[t0]? = some (cA, .float)) {i : Int32} {x : UInt32} (hout : ¬ vp_in i n) (hdg : decode cc pc = .ok (.fastore, 1))
    (k : ∀ tx : String, tx = (toString "Index " ++ toString i ++ toString " out of bounds for length " ++ toString n : String) → vx_Note p l e R s m args below meth c H locs cells slots Q (F0 m pc ls rest) "java/lang/ArrayIndexOutOfBoundsException" tx) : W p l e R s m args below meth c H locs cells slots Q (F0 m pc ls (.float x :: .int i :: .ref a :: rest)) := by
  intro T hT X
  obtain ⟨t, st, q⟩ := k _ rfl T hT X
  refine ⟨t, ?_, q⟩
  have h1 := X.fastoreOut hexec (by rw [hT]; exact hP q0 _ ha) ((hK.2 t0 _ ht).1 n (fun j => .float (f j))) (j := i) (by show (i < 0 ∨ (arrV _ _ _).slots.size ≤ _); rw [arrV_size]; exact Classical.byContradiction hout) (g := F0 m pc ls (.float x :: .int i :: .ref a :: rest)) rfl (rest := rest) rfl (by rw [hb]; exact hdg) t
  simp only [arrV_size] at h1
  exact h1 st
theorem vx_daldZ {D : va_G} {cl : List vw_C} {ws : va_W} {tys : List (ClassId × FieldType)} {a : Nat} (hexec : p.tables.exec = Jvm.exec) (hb : c.code = cc) (hK : va_K D cl tys s) (hP : va_P D cl ws H) (q0 t0 : Nat) {cA : ClassId} {n : Nat} {f : Nat → UInt64} (ha : ws[q0]? = some (a, .inl (cA, n, .inr (.inr (.inr (.inl f)))))) (ht : tys[t0]? = some (cA, .double)) {i : Int32} (hout : ¬ vp_in i n) (hdg : decode cc pc = .ok (.daload, 1))
    (k : ∀ tx : String, tx = (toString "Index " ++ toString i ++ toString " out of bounds for length " ++ toString n : String) → vx_Note p l e R s m args below meth c H locs cells slots Q (F0 m pc ls rest) "java/lang/ArrayIndexOutOfBoundsException" tx) : W p l e R s m args below meth c H locs cells slots Q (F0 m pc ls (.int i :: .ref a :: rest)) := by
  intro T hT X
  obtain ⟨t, st, q⟩ := k _ rfl T hT X
  refine ⟨t, ?_, q⟩
  have h1 := X.daloadOut hexec (by rw [hT]; exact hP q0 _ ha) ((hK.2 t0 _ ht).1 n (fun j => .double (f j))) (j := i) (by show (i < 0 ∨ (arrV _ _ _).slots.size ≤ _); rw [arrV_size]; exact Classical.byContradiction hout) (g := F0 m pc ls (.int i :: .ref a :: rest)) rfl (rest := rest) rfl (by rw [hb]; exact hdg) t
  simp only [arrV_size] at h1
  exact h1 st
theorem vx_dastZ {D : va_G} {cl : List vw_C} {ws : va_W} {tys : List (ClassId × FieldType)} {a : Nat} (hexec : p.tables.exec = Jvm.exec) (hb : c.code = cc) (hK : va_K D cl tys s) (hP : va_P D cl ws H) (q0 t0 : Nat) {cA : ClassId} {n : Nat} {f : Nat → UInt64} (ha : ws[q0]? = some (a, .inl (cA, n, .inr (.inr (.inr (.inl f)))))) (ht : tys[t0]? = some (cA, .double)) {i : Int32} {x : UInt64} (hout : ¬ vp_in i n) (hdg : decode cc pc = .ok (.dastore, 1))
    (k : ∀ tx : String, tx = (toString "Index " ++ toString i ++ toString " out of bounds for length " ++ toString n : String) → vx_Note p l e R s m args below meth c H locs cells slots Q (F0 m pc ls rest) "java/lang/ArrayIndexOutOfBoundsException" tx) : W p l e R s m args below meth c H locs cells slots Q (F0 m pc ls (.double x :: .int i :: .ref a :: rest)) := by
  intro T hT X
  obtain ⟨t, st, q⟩ := k _ rfl T hT X
  refine ⟨t, ?_, q⟩
  have h1 := X.dastoreOut hexec (by rw [hT]; exact hP q0 _ ha) ((hK.2 t0 _ ht).1 n (fun j => .double (f j))) (j := i) (by show (i < 0 ∨ (arrV _ _ _).slots.size ≤ _); rw [arrV_size]; exact Classical.byContradiction hout) (g := F0 m pc ls (.double x :: .int i :: .ref a :: rest)) rfl (rest := rest) rfl (by rw [hb]; exact hdg) t
  simp only [arrV_size] at h1
  exact h1 st
theorem vx_arraylengthN (hexec : p.tables.exec = Jvm.exec) (hb : c.code = cc) (hdg : decode cc pc = .ok (.arraylength, 1)) (k : vx_NoteN p l e R s m args below meth c H locs cells slots Q (F0 m pc ls rest)) : W p l e R s m args below meth c H locs cells slots Q (F0 m pc ls (.null :: rest)) := by
  intro T hT X
  obtain ⟨t, st, q⟩ := k T hT X
  exact ⟨t, X.arraylengthNull hexec (g := F0 m pc ls (.null :: rest)) rfl (rest := rest) rfl (by rw [hb]; exact hdg) t st, q⟩
theorem vx_ialoadN (hexec : p.tables.exec = Jvm.exec) (hb : c.code = cc) {i : Int32} (hdg : decode cc pc = .ok (.iaload, 1)) (k : vx_NoteN p l e R s m args below meth c H locs cells slots Q (F0 m pc ls rest)) : W p l e R s m args below meth c H locs cells slots Q (F0 m pc ls (.int i :: .null :: rest)) := by
  intro T hT X
  obtain ⟨t, st, q⟩ := k T hT X
  exact ⟨t, X.ialoadNull hexec (g := F0 m pc ls (.int i :: .null :: rest)) rfl (rest := rest) rfl (by rw [hb]; exact hdg) t st, q⟩
theorem vx_laloadN (hexec : p.tables.exec = Jvm.exec) (hb : c.code = cc) {i : Int32} (hdg : decode cc pc = .ok (.laload, 1)) (k : vx_NoteN p l e R s m args below meth c H locs cells slots Q (F0 m pc ls rest)) : W p l e R s m args below meth c H locs cells slots Q (F0 m pc ls (.int i :: .null :: rest)) := by
  intro T hT X
  obtain ⟨t, st, q⟩ := k T hT X
  exact ⟨t, X.laloadNull hexec (g := F0 m pc ls (.int i :: .null :: rest)) rfl (rest := rest) rfl (by rw [hb]; exact hdg) t st, q⟩
theorem vx_faloadN (hexec : p.tables.exec = Jvm.exec) (hb : c.code = cc) {i : Int32} (hdg : decode cc pc = .ok (.faload, 1)) (k : vx_NoteN p l e R s m args below meth c H locs cells slots Q (F0 m pc ls rest)) : W p l e R s m args below meth c H locs cells slots Q (F0 m pc ls (.int i :: .null :: rest)) := by
  intro T hT X
  obtain ⟨t, st, q⟩ := k T hT X
  exact ⟨t, X.faloadNull hexec (g := F0 m pc ls (.int i :: .null :: rest)) rfl (rest := rest) rfl (by rw [hb]; exact hdg) t st, q⟩
theorem vx_daloadN (hexec : p.tables.exec = Jvm.exec) (hb : c.code = cc) {i : Int32} (hdg : decode cc pc = .ok (.daload, 1)) (k : vx_NoteN p l e R s m args below meth c H locs cells slots Q (F0 m pc ls rest)) : W p l e R s m args below meth c H locs cells slots Q (F0 m pc ls (.int i :: .null :: rest)) := by
  intro T hT X
  obtain ⟨t, st, q⟩ := k T hT X
  exact ⟨t, X.daloadNull hexec (g := F0 m pc ls (.int i :: .null :: rest)) rfl (rest := rest) rfl (by rw [hb]; exact hdg) t st, q⟩
theorem vx_aaloadN (hexec : p.tables.exec = Jvm.exec) (hb : c.code = cc) {i : Int32} (hdg : decode cc pc = .ok (.aaload, 1)) (k : vx_NoteN p l e R s m args below meth c H locs cells slots Q (F0 m pc ls rest)) : W p l e R s m args below meth c H locs cells slots Q (F0 m pc ls (.int i :: .null :: rest)) := by
  intro T hT X
  obtain ⟨t, st, q⟩ := k T hT X
  exact ⟨t, X.aaloadNull hexec (g := F0 m pc ls (.int i :: .null :: rest)) rfl (rest := rest) rfl (by rw [hb]; exact hdg) t st, q⟩
theorem vx_baloadN (hexec : p.tables.exec = Jvm.exec) (hb : c.code = cc) {i : Int32} (hdg : decode cc pc = .ok (.baload, 1)) (k : vx_NoteN p l e R s m args below meth c H locs cells slots Q (F0 m pc ls rest)) : W p l e R s m args below meth c H locs cells slots Q (F0 m pc ls (.int i :: .null :: rest)) := by
  intro T hT X
  obtain ⟨t, st, q⟩ := k T hT X
  exact ⟨t, X.baloadNull hexec (g := F0 m pc ls (.int i :: .null :: rest)) rfl (rest := rest) rfl (by rw [hb]; exact hdg) t st, q⟩
theorem vx_caloadN (hexec : p.tables.exec = Jvm.exec) (hb : c.code = cc) {i : Int32} (hdg : decode cc pc = .ok (.caload, 1)) (k : vx_NoteN p l e R s m args below meth c H locs cells slots Q (F0 m pc ls rest)) : W p l e R s m args below meth c H locs cells slots Q (F0 m pc ls (.int i :: .null :: rest)) := by
  intro T hT X
  obtain ⟨t, st, q⟩ := k T hT X
  exact ⟨t, X.caloadNull hexec (g := F0 m pc ls (.int i :: .null :: rest)) rfl (rest := rest) rfl (by rw [hb]; exact hdg) t st, q⟩
theorem vx_saloadN (hexec : p.tables.exec = Jvm.exec) (hb : c.code = cc) {i : Int32} (hdg : decode cc pc = .ok (.saload, 1)) (k : vx_NoteN p l e R s m args below meth c H locs cells slots Q (F0 m pc ls rest)) : W p l e R s m args below meth c H locs cells slots Q (F0 m pc ls (.int i :: .null :: rest)) := by
  intro T hT X
  obtain ⟨t, st, q⟩ := k T hT X
  exact ⟨t, X.saloadNull hexec (g := F0 m pc ls (.int i :: .null :: rest)) rfl (rest := rest) rfl (by rw [hb]; exact hdg) t st, q⟩
theorem vx_iastoreN (hexec : p.tables.exec = Jvm.exec) (hb : c.code = cc) {x : Int32} {i : Int32} (hdg : decode cc pc = .ok (.iastore, 1)) (k : vx_NoteN p l e R s m args below meth c H locs cells slots Q (F0 m pc ls rest)) : W p l e R s m args below meth c H locs cells slots Q (F0 m pc ls (.int x :: .int i :: .null :: rest)) := by
  intro T hT X
  obtain ⟨t, st, q⟩ := k T hT X
  exact ⟨t, X.iastoreNull hexec (g := F0 m pc ls (.int x :: .int i :: .null :: rest)) rfl (rest := rest) rfl (by rw [hb]; exact hdg) t st, q⟩
theorem vx_lastoreN (hexec : p.tables.exec = Jvm.exec) (hb : c.code = cc) {x : Int64} {i : Int32} (hdg : decode cc pc = .ok (.lastore, 1)) (k : vx_NoteN p l e R s m args below meth c H locs cells slots Q (F0 m pc ls rest)) : W p l e R s m args below meth c H locs cells slots Q (F0 m pc ls (.long x :: .int i :: .null :: rest)) := by
  intro T hT X
  obtain ⟨t, st, q⟩ := k T hT X
  exact ⟨t, X.lastoreNull hexec (g := F0 m pc ls (.long x :: .int i :: .null :: rest)) rfl (rest := rest) rfl (by rw [hb]; exact hdg) t st, q⟩
theorem vx_fastoreN (hexec : p.tables.exec = Jvm.exec) (hb : c.code = cc) {x : UInt32} {i : Int32} (hdg : decode cc pc = .ok (.fastore, 1)) (k : vx_NoteN p l e R s m args below meth c H locs cells slots Q (F0 m pc ls rest)) : W p l e R s m args below meth c H locs cells slots Q (F0 m pc ls (.float x :: .int i :: .null :: rest)) := by
  intro T hT X
  obtain ⟨t, st, q⟩ := k T hT X
  exact ⟨t, X.fastoreNull hexec (g := F0 m pc ls (.float x :: .int i :: .null :: rest)) rfl (rest := rest) rfl (by rw [hb]; exact hdg) t st, q⟩
theorem vx_dastoreN (hexec : p.tables.exec = Jvm.exec) (hb : c.code = cc) {x : UInt64} {i : Int32} (hdg : decode cc pc = .ok (.dastore, 1)) (k : vx_NoteN p l e R s m args below meth c H locs cells slots Q (F0 m pc ls rest)) : W p l e R s m args below meth c H locs cells slots Q (F0 m pc ls (.double x :: .int i :: .null :: rest)) := by
  intro T hT X
  obtain ⟨t, st, q⟩ := k T hT X
  exact ⟨t, X.dastoreNull hexec (g := F0 m pc ls (.double x :: .int i :: .null :: rest)) rfl (rest := rest) rfl (by rw [hb]; exact hdg) t st, q⟩
theorem vx_bastoreN (hexec : p.tables.exec = Jvm.exec) (hb : c.code = cc) {x : Int32} {i : Int32} (hdg : decode cc pc = .ok (.bastore, 1)) (k : vx_NoteN p l e R s m args below meth c H locs cells slots Q (F0 m pc ls rest)) : W p l e R s m args below meth c H locs cells slots Q (F0 m pc ls (.int x :: .int i :: .null :: rest)) := by
  intro T hT X
  obtain ⟨t, st, q⟩ := k T hT X
  exact ⟨t, X.bastoreNull hexec (g := F0 m pc ls (.int x :: .int i :: .null :: rest)) rfl (rest := rest) rfl (by rw [hb]; exact hdg) t st, q⟩
theorem vx_castoreN (hexec : p.tables.exec = Jvm.exec) (hb : c.code = cc) {x : Int32} {i : Int32} (hdg : decode cc pc = .ok (.castore, 1)) (k : vx_NoteN p l e R s m args below meth c H locs cells slots Q (F0 m pc ls rest)) : W p l e R s m args below meth c H locs cells slots Q (F0 m pc ls (.int x :: .int i :: .null :: rest)) := by
  intro T hT X
  obtain ⟨t, st, q⟩ := k T hT X
  exact ⟨t, X.castoreNull hexec (g := F0 m pc ls (.int x :: .int i :: .null :: rest)) rfl (rest := rest) rfl (by rw [hb]; exact hdg) t st, q⟩
theorem vx_sastoreN (hexec : p.tables.exec = Jvm.exec) (hb : c.code = cc) {x : Int32} {i : Int32} (hdg : decode cc pc = .ok (.sastore, 1)) (k : vx_NoteN p l e R s m args below meth c H locs cells slots Q (F0 m pc ls rest)) : W p l e R s m args below meth c H locs cells slots Q (F0 m pc ls (.int x :: .int i :: .null :: rest)) := by
  intro T hT X
  obtain ⟨t, st, q⟩ := k T hT X
  exact ⟨t, X.sastoreNull hexec (g := F0 m pc ls (.int x :: .int i :: .null :: rest)) rfl (rest := rest) rfl (by rw [hb]; exact hdg) t st, q⟩
theorem vx_invokeN {own C : String} {index maxL : Nat} {y : MethodName} {bytes : ByteArray} {ret : Option FieldType} (hexec : p.tables.exec = Jvm.exec) (hb : c.code = cc) (hown : s.vm.findClass own = some m.cls) (hlink : (Cond.methodLink own index y).before args s = true) (hinst : (Cond.instanceMethod y).before args s = true) (hcode : (Cond.code y bytes maxL ret).before args s = true) (hsel : (Cond.selects C y y).before args s = true)
    (hx : y.cls ≠ "java/lang/invoke/MethodHandle" ∧ y.cls ≠ "java/lang/invoke/VarHandle") {As : List Value} (hlen : (parseMethodDescriptor y.desc).map (fun d => d.parameters.length) = some As.length) (hdg : decode cc pc = .ok (.invokevirtual index, 3))
    (k : vx_NoteN p l e R s m args below meth c H locs cells slots Q (F0 m pc ls rest)) {st0 : List Value} (hst : st0 = As.reverse ++ .null :: rest) : W p l e R s m args below meth c H locs cells slots Q (F0 m pc ls st0) := by
  intro T hT X
  obtain ⟨r0, r, hn, hrm, hstR, hsigR⟩ := va_Decl.of hinst hcode
  obtain ⟨c2, r2, m2, q1, q2, q3, q4, kP, hkP, hkPi⟩ := Cond.selects_spec hsel
  cases hn.symm.trans q3
  have hl9 : As.length = r.sig.parameters.length := by
    rw [hsigR] at hlen
    exact (Option.some.inj hlen).symm
  obtain ⟨vm', X1, st1⟩ := X.invokevirtualNull hexec hown hlink hn hrm hstR hkP hkPi hx (g := F0 m pc ls st0) rfl (argsL := As) (rest := rest) hl9 hst (by rw [hb]; exact hdg)
  obtain ⟨t, st, q⟩ := k (T.setVm vm') hT X1
  exact ⟨t, st1 t st, q⟩
theorem vx_newarrayZ {atype : ArrayType} (hexec : p.tables.exec = Jvm.exec) (hb : c.code = cc) {n : Int32} (h0 : n < 0) (hdg : decode cc pc = .ok (.newarray atype, 2)) (k : ∀ tx : String, tx = toString n → vx_Note p l e R s m args below meth c H locs cells slots Q (F0 m pc ls rest) "java/lang/NegativeArraySizeException" tx) : W p l e R s m args below meth c H locs cells slots Q (F0 m pc ls (.int n :: rest)) := by
  intro T hT X
  obtain ⟨t, st, q⟩ := k _ rfl T hT X
  exact ⟨t, X.newarrayNegative hexec (g := F0 m pc ls (.int n :: rest)) rfl h0 (rest := rest) rfl (by rw [hb]; exact hdg) t st, q⟩
end
end VXM
/-! ===== END ===== -/
end
section
def RX0 : String := "Quizspool$Plan"
def TX0 : u_T := fun k => match k with
  | 0 => ("Quizspool$Plan", "week", "I", true)
  | 1 => ("Quizspool$Plan", "kind", "C", true)
  | 2 => ("Quizspool$Plan", "many", "I", true)
  | 3 => ("Quizspool$Plan", "held", "Ljava/util/ArrayList;", true)
  | _ => ("Quizspool$Plan", "isDropped", "Z", false)
def tyX0 : Nat → FieldType := fun k => match k with
  | 0 => .int
  | 1 => .char
  | 2 => .int
  | 3 => .object "java/util/ArrayList"
  | _ => .boolean
abbrev wsX00 : List Cond := u_ws RX0 TX0 5
theorem nmX0 : ∀ a, a < 5 → ∀ b, b < 5 → a ≠ b → (TX0 a).2.1 ≠ (TX0 b).2.1 := by decide +kernel
theorem tyX0_ok : ∀ k, k < 5 → parseFieldDescriptor (TX0 k).2.2.1 = some (tyX0 k) := by decide +kernel
abbrev cX0_init : ByteArray := prog_2_method_1_code
def yX0_init : MethodName := ⟨RX0, "<init>", "(ICI)V"⟩
abbrev cX0_missing : ByteArray := prog_2_method_2_code
def yX0_missing : MethodName := ⟨RX0, "missing", "()I"⟩
def RX1 : String := "Quizspool$Question"
def TX1 : u_T := fun k => match k with
  | 0 => ("Quizspool$Question", "number", "I", true)
  | 1 => ("Quizspool$Question", "words", "[I", true)
  | 2 => ("Quizspool$Question", "firstLevel", "I", true)
  | 3 => ("Quizspool$Question", "level", "I", false)
  | 4 => ("Quizspool$Question", "rights", "[Z", true)
  | 5 => ("Quizspool$Question", "rightsCount", "I", false)
  | 6 => ("Quizspool$Question", "family", "I", false)
  | 7 => ("Quizspool$Question", "rank", "I", false)
  | 8 => ("Quizspool$Question", "isHeld", "Z", false)
  | 9 => ("Quizspool$Question", "holders", "I", false)
  | _ => ("Quizspool$Question", "printedWeek", "I", false)
def tyX1 : Nat → FieldType := fun k => match k with
  | 0 => .int
  | 1 => .array .int
  | 2 => .int
  | 3 => .int
  | 4 => .array .boolean
  | 5 => .int
  | 6 => .int
  | 7 => .int
  | 8 => .boolean
  | 9 => .int
  | _ => .int
abbrev wsX10 : List Cond := u_ws RX1 TX1 11
theorem nmX1 : ∀ a, a < 11 → ∀ b, b < 11 → a ≠ b → (TX1 a).2.1 ≠ (TX1 b).2.1 := by decide +kernel
theorem tyX1_ok : ∀ k, k < 11 → parseFieldDescriptor (TX1 k).2.2.1 = some (tyX1 k) := by decide +kernel
abbrev cX1_init : ByteArray := prog_3_method_1_code
def yX1_init : MethodName := ⟨RX1, "<init>", "(I[II)V"⟩
abbrev cX1_kindNow : ByteArray := prog_3_method_2_code
def yX1_kindNow : MethodName := ⟨RX1, "kindNow", "()C"⟩
abbrev cX1_rankFor : ByteArray := prog_3_method_3_code
def yX1_rankFor : MethodName := ⟨RX1, "rankFor", "(I)I"⟩
abbrev cX1_takeAnswer : ByteArray := prog_3_method_4_code
def yX1_takeAnswer : MethodName := ⟨RX1, "takeAnswer", "(Z)V"⟩
abbrev cX1_levelByAnswers : ByteArray := prog_3_method_5_code
def yX1_levelByAnswers : MethodName := ⟨RX1, "levelByAnswers", "()I"⟩
abbrev cX1_shifted : ByteArray := prog_3_method_6_code
def yX1_shifted : MethodName := ⟨RX1, "shifted", "(IZ)I"⟩
def RX2 : String := "Quizspool$Sheet"
def TX2 : u_T := fun k => match k with
  | 0 => ("Quizspool$Sheet", "questions", "Ljava/util/ArrayList;", true)
  | 1 => ("Quizspool$Sheet", "isAnswered", "[Z", true)
  | _ => ("Quizspool$Sheet", "state", "C", false)
def tyX2 : Nat → FieldType := fun k => match k with
  | 0 => .object "java/util/ArrayList"
  | 1 => .array .boolean
  | _ => .char
abbrev wsX20 : List Cond := u_ws RX2 TX2 3
theorem nmX2 : ∀ a, a < 3 → ∀ b, b < 3 → a ≠ b → (TX2 a).2.1 ≠ (TX2 b).2.1 := by decide +kernel
theorem tyX2_ok : ∀ k, k < 3 → parseFieldDescriptor (TX2 k).2.2.1 = some (tyX2 k) := by decide +kernel
abbrev cX2_init : ByteArray := prog_4_method_1_code
def yX2_init : MethodName := ⟨RX2, "<init>", "(Ljava/util/ArrayList;)V"⟩
abbrev cX2_markAnswered : ByteArray := prog_4_method_2_code
def yX2_markAnswered : MethodName := ⟨RX2, "markAnswered", "(I)Z"⟩
def RX3 : String := "Quizspool"
def TX3 : u_T := fun k => match k with
  | 0 => ("Quizspool", "row", "[I", true)
  | 1 => ("Quizspool", "rowCount", "I", false)
  | 2 => ("Quizspool", "questions", "Ljava/util/ArrayList;", true)
  | 3 => ("Quizspool", "hits", "Ljava/util/ArrayList;", true)
  | 4 => ("Quizspool", "plans", "Ljava/util/ArrayList;", true)
  | 5 => ("Quizspool", "sheets", "Ljava/util/ArrayList;", true)
  | 6 => ("Quizspool", "thisWeek", "I", false)
  | 7 => ("Quizspool", "isJammed", "Z", false)
  | 8 => ("Quizspool", "answerCount", "I", false)
  | 9 => ("Quizspool", "rightCount", "I", false)
  | 10 => ("Quizspool", "drawn", "Ljava/util/ArrayList;", true)
  | 11 => ("Quizspool", "candidates", "Ljava/util/ArrayList;", true)
  | _ => ("Quizspool", "text", "Ljava/lang/StringBuilder;", true)
def tyX3 : Nat → FieldType := fun k => match k with
  | 0 => .array .int
  | 1 => .int
  | 2 => .object "java/util/ArrayList"
  | 3 => .object "java/util/ArrayList"
  | 4 => .object "java/util/ArrayList"
  | 5 => .object "java/util/ArrayList"
  | 6 => .int
  | 7 => .boolean
  | 8 => .int
  | 9 => .int
  | 10 => .object "java/util/ArrayList"
  | 11 => .object "java/util/ArrayList"
  | _ => .object "java/lang/StringBuilder"
abbrev wsX30 : List Cond := u_ws RX3 TX3 13
theorem nmX3 : ∀ a, a < 13 → ∀ b, b < 13 → a ≠ b → (TX3 a).2.1 ≠ (TX3 b).2.1 := by decide +kernel
theorem tyX3_ok : ∀ k, k < 13 → parseFieldDescriptor (TX3 k).2.2.1 = some (tyX3 k) := by decide +kernel
abbrev cX3_init : ByteArray := prog_1_method_1_code
def yX3_init : MethodName := ⟨RX3, "<init>", "()V"⟩
abbrev cX3_type : ByteArray := prog_1_method_2_code
def yX3_type : MethodName := ⟨RX3, "type", "(I)I"⟩
abbrev cX3_erase : ByteArray := prog_1_method_3_code
def yX3_erase : MethodName := ⟨RX3, "erase", "()I"⟩
abbrev cX3_add : ByteArray := prog_1_method_4_code
def yX3_add : MethodName := ⟨RX3, "add", "(I)I"⟩
abbrev cX3_twin : ByteArray := prog_1_method_5_code
def yX3_twin : MethodName := ⟨RX3, "twin", "(II)I"⟩
abbrev cX3_areTwins : ByteArray := prog_1_method_6_code
def yX3_areTwins : MethodName := ⟨RX3, "areTwins", "(II)Z"⟩
abbrev cX3_wordAt : ByteArray := prog_1_method_7_code
def yX3_wordAt : MethodName := ⟨RX3, "wordAt", "(II)I"⟩
abbrev cX3_level : ByteArray := prog_1_method_8_code
def yX3_level : MethodName := ⟨RX3, "level", "(I)I"⟩
abbrev cX3_levelAnew : ByteArray := prog_1_method_9_code
def yX3_levelAnew : MethodName := ⟨RX3, "levelAnew", "(I)I"⟩
abbrev cX3_kind : ByteArray := prog_1_method_10_code
def yX3_kind : MethodName := ⟨RX3, "kind", "(I)C"⟩
abbrev cX3_search : ByteArray := prog_1_method_11_code
def yX3_search : MethodName := ⟨RX3, "search", "()I"⟩
abbrev cX3_hitAt : ByteArray := prog_1_method_12_code
def yX3_hitAt : MethodName := ⟨RX3, "hitAt", "(I)I"⟩
abbrev cX3_rankAt : ByteArray := prog_1_method_13_code
def yX3_rankAt : MethodName := ⟨RX3, "rankAt", "(I)I"⟩
abbrev cX3_week : ByteArray := prog_1_method_14_code
def yX3_week : MethodName := ⟨RX3, "week", "()I"⟩
abbrev cX3_nextWeek : ByteArray := prog_1_method_15_code
def yX3_nextWeek : MethodName := ⟨RX3, "nextWeek", "()I"⟩
abbrev cX3_plan : ByteArray := prog_1_method_16_code
def yX3_plan : MethodName := ⟨RX3, "plan", "(ICI)I"⟩
abbrev cX3_drop : ByteArray := prog_1_method_17_code
def yX3_drop : MethodName := ⟨RX3, "drop", "(I)I"⟩
abbrev cX3_held : ByteArray := prog_1_method_18_code
def yX3_held : MethodName := ⟨RX3, "held", "(I)I"⟩
abbrev cX3_heldAt : ByteArray := prog_1_method_19_code
def yX3_heldAt : MethodName := ⟨RX3, "heldAt", "(II)I"⟩
abbrev cX3_lacks : ByteArray := prog_1_method_20_code
def yX3_lacks : MethodName := ⟨RX3, "lacks", "(I)I"⟩
abbrev cX3_isFree : ByteArray := prog_1_method_21_code
def yX3_isFree : MethodName := ⟨RX3, "isFree", "(I)Z"⟩
abbrev cX3_quiz : ByteArray := prog_1_method_22_code
def yX3_quiz : MethodName := ⟨RX3, "quiz", "(IIII)I"⟩
abbrev cX3_quizOf : ByteArray := prog_1_method_23_code
def yX3_quizOf : MethodName := ⟨RX3, "quizOf", "(I)I"⟩
abbrev cX3_size : ByteArray := prog_1_method_24_code
def yX3_size : MethodName := ⟨RX3, "size", "(I)I"⟩
abbrev cX3_questionAt : ByteArray := prog_1_method_25_code
def yX3_questionAt : MethodName := ⟨RX3, "questionAt", "(II)I"⟩
abbrev cX3_stateOf : ByteArray := prog_1_method_26_code
def yX3_stateOf : MethodName := ⟨RX3, "stateOf", "(I)C"⟩
abbrev cX3_waiting : ByteArray := prog_1_method_27_code
def yX3_waiting : MethodName := ⟨RX3, "waiting", "()I"⟩
abbrev cX3_setJam : ByteArray := prog_1_method_28_code
def yX3_setJam : MethodName := ⟨RX3, "setJam", "(Z)Z"⟩
abbrev cX3_print : ByteArray := prog_1_method_29_code
def yX3_print : MethodName := ⟨RX3, "print", "()I"⟩
abbrev cX3_cancel : ByteArray := prog_1_method_30_code
def yX3_cancel : MethodName := ⟨RX3, "cancel", "(I)I"⟩
abbrev cX3_answer : ByteArray := prog_1_method_31_code
def yX3_answer : MethodName := ⟨RX3, "answer", "(IIZ)I"⟩
abbrev cX3_textOf : ByteArray := prog_1_method_32_code
def yX3_textOf : MethodName := ⟨RX3, "textOf", "(II)C"⟩
abbrev cX3_answers : ByteArray := prog_1_method_33_code
def yX3_answers : MethodName := ⟨RX3, "answers", "()I"⟩
abbrev cX3_allLevels : ByteArray := prog_1_method_34_code
def yX3_allLevels : MethodName := ⟨RX3, "allLevels", "()J"⟩
abbrev cX3_rightShare : ByteArray := prog_1_method_35_code
def yX3_rightShare : MethodName := ⟨RX3, "rightShare", "()F"⟩
abbrev cX3_meanLevel : ByteArray := prog_1_method_36_code
def yX3_meanLevel : MethodName := ⟨RX3, "meanLevel", "()D"⟩
abbrev cX3_isSound : ByteArray := prog_1_method_37_code
def yX3_isSound : MethodName := ⟨RX3, "isSound", "()Z"⟩
abbrev cX3_isOutside : ByteArray := prog_1_method_38_code
def yX3_isOutside : MethodName := ⟨RX3, "isOutside", "(III)Z"⟩
abbrev cX3_questionOf : ByteArray := prog_1_method_39_code
def yX3_questionOf : MethodName := ⟨RX3, "questionOf", "(I)LQuizspool$Question;"⟩
abbrev cX3_planOf : ByteArray := prog_1_method_40_code
def yX3_planOf : MethodName := ⟨RX3, "planOf", "(I)LQuizspool$Plan;"⟩
abbrev cX3_sheetOf : ByteArray := prog_1_method_41_code
def yX3_sheetOf : MethodName := ⟨RX3, "sheetOf", "(I)LQuizspool$Sheet;"⟩
abbrev cX3_hitOf : ByteArray := prog_1_method_42_code
def yX3_hitOf : MethodName := ⟨RX3, "hitOf", "(I)LQuizspool$Question;"⟩
abbrev cX3_elementOf : ByteArray := prog_1_method_43_code
def yX3_elementOf : MethodName := ⟨RX3, "elementOf", "(Ljava/util/ArrayList;I)LQuizspool$Question;"⟩
abbrev cX3_wordsOfRow : ByteArray := prog_1_method_44_code
def yX3_wordsOfRow : MethodName := ⟨RX3, "wordsOfRow", "()I"⟩
abbrev cX3_placeAmongHits : ByteArray := prog_1_method_45_code
def yX3_placeAmongHits : MethodName := ⟨RX3, "placeAmongHits", "(I)I"⟩
abbrev cX3_joinFamilies : ByteArray := prog_1_method_46_code
def yX3_joinFamilies : MethodName := ⟨RX3, "joinFamilies", "(II)V"⟩
abbrev cX3_countTwins : ByteArray := prog_1_method_47_code
def yX3_countTwins : MethodName := ⟨RX3, "countTwins", "(LQuizspool$Question;)I"⟩
abbrev cX3_hasRelative : ByteArray := prog_1_method_48_code
def yX3_hasRelative : MethodName := ⟨RX3, "hasRelative", "(Ljava/util/ArrayList;ILQuizspool$Question;)Z"⟩
abbrev cX3_isOpen : ByteArray := prog_1_method_49_code
def yX3_isOpen : MethodName := ⟨RX3, "isOpen", "(LQuizspool$Plan;)Z"⟩
abbrev cX3_isAvailable : ByteArray := prog_1_method_50_code
def yX3_isAvailable : MethodName := ⟨RX3, "isAvailable", "(LQuizspool$Question;)Z"⟩
abbrev cX3_settlePlans : ByteArray := prog_1_method_51_code
def yX3_settlePlans : MethodName := ⟨RX3, "settlePlans", "()V"⟩
abbrev cX3_letGoUnfit : ByteArray := prog_1_method_52_code
def yX3_letGoUnfit : MethodName := ⟨RX3, "letGoUnfit", "(LQuizspool$Plan;)V"⟩
abbrev cX3_isFit : ByteArray := prog_1_method_53_code
def yX3_isFit : MethodName := ⟨RX3, "isFit", "(LQuizspool$Plan;I)Z"⟩
abbrev cX3_letGoAll : ByteArray := prog_1_method_54_code
def yX3_letGoAll : MethodName := ⟨RX3, "letGoAll", "(LQuizspool$Plan;)V"⟩
abbrev cX3_close : ByteArray := prog_1_method_55_code
def yX3_close : MethodName := ⟨RX3, "close", "(LQuizspool$Plan;)V"⟩
abbrev cX3_fill : ByteArray := prog_1_method_56_code
def yX3_fill : MethodName := ⟨RX3, "fill", "(LQuizspool$Plan;)V"⟩
abbrev cX3_isCandidate : ByteArray := prog_1_method_57_code
def yX3_isCandidate : MethodName := ⟨RX3, "isCandidate", "(LQuizspool$Question;CLjava/util/ArrayList;)Z"⟩
abbrev cX3_drawQuestions : ByteArray := prog_1_method_58_code
def yX3_drawQuestions : MethodName := ⟨RX3, "drawQuestions", "(IIII)Z"⟩
abbrev cX3_gatherCandidates : ByteArray := prog_1_method_59_code
def yX3_gatherCandidates : MethodName := ⟨RX3, "gatherCandidates", "(C)V"⟩
abbrev cX3_spool : ByteArray := prog_1_method_60_code
def yX3_spool : MethodName := ⟨RX3, "spool", "(LQuizspool$Sheet;)I"⟩
abbrev cX3_firstWaiting : ByteArray := prog_1_method_61_code
def yX3_firstWaiting : MethodName := ⟨RX3, "firstWaiting", "()I"⟩
abbrev cX3_writeText : ByteArray := prog_1_method_62_code
def yX3_writeText : MethodName := ⟨RX3, "writeText", "(ILQuizspool$Sheet;)V"⟩
abbrev cX3_areLevelsAsAnswered : ByteArray := prog_1_method_63_code
def yX3_areLevelsAsAnswered : MethodName := ⟨RX3, "areLevelsAsAnswered", "()Z"⟩
abbrev cX3_isNoneHeldTwice : ByteArray := prog_1_method_64_code
def yX3_isNoneHeldTwice : MethodName := ⟨RX3, "isNoneHeldTwice", "()Z"⟩
abbrev cX3_countHolder : ByteArray := prog_1_method_65_code
def yX3_countHolder : MethodName := ⟨RX3, "countHolder", "(Ljava/util/ArrayList;)V"⟩
abbrev cX3_arePlansKept : ByteArray := prog_1_method_66_code
def yX3_arePlansKept : MethodName := ⟨RX3, "arePlansKept", "()Z"⟩
def RX4 : String := "QuizspoolModel"
def TX4 : u_T := fun k => match k with
  | 0 => ("QuizspoolModel", "row", "[I", true)
  | 1 => ("QuizspoolModel", "words", "[I", true)
  | 2 => ("QuizspoolModel", "sizes", "[I", true)
  | 3 => ("QuizspoolModel", "levels", "[I", true)
  | 4 => ("QuizspoolModel", "groups", "[I", true)
  | 5 => ("QuizspoolModel", "printed", "[I", true)
  | 6 => ("QuizspoolModel", "hits", "[I", true)
  | 7 => ("QuizspoolModel", "ranks", "[I", true)
  | 8 => ("QuizspoolModel", "planWeeks", "[I", true)
  | 9 => ("QuizspoolModel", "wanted", "[I", true)
  | 10 => ("QuizspoolModel", "holds", "[I", true)
  | 11 => ("QuizspoolModel", "heldCounts", "[I", true)
  | 12 => ("QuizspoolModel", "planKinds", "[C", true)
  | 13 => ("QuizspoolModel", "states", "[C", true)
  | 14 => ("QuizspoolModel", "areDropped", "[Z", true)
  | 15 => ("QuizspoolModel", "areAnswered", "[Z", true)
  | 16 => ("QuizspoolModel", "onSheet", "[I", true)
  | 17 => ("QuizspoolModel", "sheetSizes", "[I", true)
  | 18 => ("QuizspoolModel", "text", "[C", true)
  | 19 => ("QuizspoolModel", "typed", "I", false)
  | 20 => ("QuizspoolModel", "questions", "I", false)
  | 21 => ("QuizspoolModel", "hitCount", "I", false)
  | 22 => ("QuizspoolModel", "plans", "I", false)
  | 23 => ("QuizspoolModel", "sheets", "I", false)
  | 24 => ("QuizspoolModel", "week", "I", false)
  | 25 => ("QuizspoolModel", "answers", "I", false)
  | 26 => ("QuizspoolModel", "right", "I", false)
  | 27 => ("QuizspoolModel", "thrown", "I", false)
  | 28 => ("QuizspoolModel", "textSize", "I", false)
  | 29 => ("QuizspoolModel", "isJammed", "Z", false)
  | _ => ("QuizspoolModel", "trial", "[I", true)
def tyX4 : Nat → FieldType := fun k => match k with
  | 0 => .array .int
  | 1 => .array .int
  | 2 => .array .int
  | 3 => .array .int
  | 4 => .array .int
  | 5 => .array .int
  | 6 => .array .int
  | 7 => .array .int
  | 8 => .array .int
  | 9 => .array .int
  | 10 => .array .int
  | 11 => .array .int
  | 12 => .array .char
  | 13 => .array .char
  | 14 => .array .boolean
  | 15 => .array .boolean
  | 16 => .array .int
  | 17 => .array .int
  | 18 => .array .char
  | 19 => .int
  | 20 => .int
  | 21 => .int
  | 22 => .int
  | 23 => .int
  | 24 => .int
  | 25 => .int
  | 26 => .int
  | 27 => .int
  | 28 => .int
  | 29 => .boolean
  | _ => .array .int
abbrev wsX40 : List Cond := u_ws RX4 TX4 31
theorem nmX4 : ∀ a, a < 31 → ∀ b, b < 31 → a ≠ b → (TX4 a).2.1 ≠ (TX4 b).2.1 := by decide +kernel
theorem tyX4_ok : ∀ k, k < 31 → parseFieldDescriptor (TX4 k).2.2.1 = some (tyX4 k) := by decide +kernel
abbrev cX4_init : ByteArray := prog_6_method_1_code
def yX4_init : MethodName := ⟨RX4, "<init>", "()V"⟩
abbrev cX4_thrown : ByteArray := prog_6_method_2_code
def yX4_thrown : MethodName := ⟨RX4, "thrown", "()I"⟩
abbrev cX4_in : ByteArray := prog_6_method_3_code
def yX4_in : MethodName := ⟨RX4, "in", "(III)Z"⟩
abbrev cX4_plain : ByteArray := prog_6_method_4_code
def yX4_plain : MethodName := ⟨RX4, "plain", "(I)I"⟩
abbrev cX4_isQuestion : ByteArray := prog_6_method_5_code
def yX4_isQuestion : MethodName := ⟨RX4, "isQuestion", "(I)Z"⟩
abbrev cX4_isPlan : ByteArray := prog_6_method_6_code
def yX4_isPlan : MethodName := ⟨RX4, "isPlan", "(I)Z"⟩
abbrev cX4_isSheet : ByteArray := prog_6_method_7_code
def yX4_isSheet : MethodName := ⟨RX4, "isSheet", "(I)Z"⟩
abbrev cX4_type : ByteArray := prog_6_method_8_code
def yX4_type : MethodName := ⟨RX4, "type", "(I)I"⟩
abbrev cX4_erase : ByteArray := prog_6_method_9_code
def yX4_erase : MethodName := ⟨RX4, "erase", "()I"⟩
abbrev cX4_add : ByteArray := prog_6_method_10_code
def yX4_add : MethodName := ⟨RX4, "add", "(I)I"⟩
abbrev cX4_twin : ByteArray := prog_6_method_11_code
def yX4_twin : MethodName := ⟨RX4, "twin", "(II)I"⟩
abbrev cX4_areTwin : ByteArray := prog_6_method_12_code
def yX4_areTwin : MethodName := ⟨RX4, "areTwin", "(II)Z"⟩
abbrev cX4_areTwins : ByteArray := prog_6_method_13_code
def yX4_areTwins : MethodName := ⟨RX4, "areTwins", "(II)Z"⟩
abbrev cX4_wrongQuestion : ByteArray := prog_6_method_14_code
def yX4_wrongQuestion : MethodName := ⟨RX4, "wrongQuestion", "(I)I"⟩
abbrev cX4_wordAt : ByteArray := prog_6_method_15_code
def yX4_wordAt : MethodName := ⟨RX4, "wordAt", "(II)I"⟩
abbrev cX4_level : ByteArray := prog_6_method_16_code
def yX4_level : MethodName := ⟨RX4, "level", "(I)I"⟩
abbrev cX4_levelAnew : ByteArray := prog_6_method_17_code
def yX4_levelAnew : MethodName := ⟨RX4, "levelAnew", "(I)I"⟩
abbrev cX4_kindOf : ByteArray := prog_6_method_18_code
def yX4_kindOf : MethodName := ⟨RX4, "kindOf", "(I)C"⟩
abbrev cX4_kind : ByteArray := prog_6_method_19_code
def yX4_kind : MethodName := ⟨RX4, "kind", "(I)C"⟩
abbrev cX4_isTyped : ByteArray := prog_6_method_20_code
def yX4_isTyped : MethodName := ⟨RX4, "isTyped", "(I)Z"⟩
abbrev cX4_hasAhead : ByteArray := prog_6_method_21_code
def yX4_hasAhead : MethodName := ⟨RX4, "hasAhead", "(II)Z"⟩
abbrev cX4_rankOf : ByteArray := prog_6_method_22_code
def yX4_rankOf : MethodName := ⟨RX4, "rankOf", "(I)I"⟩
abbrev cX4_search : ByteArray := prog_6_method_23_code
def yX4_search : MethodName := ⟨RX4, "search", "()I"⟩
abbrev cX4_hitAt : ByteArray := prog_6_method_24_code
def yX4_hitAt : MethodName := ⟨RX4, "hitAt", "(I)I"⟩
abbrev cX4_rankAt : ByteArray := prog_6_method_25_code
def yX4_rankAt : MethodName := ⟨RX4, "rankAt", "(I)I"⟩
abbrev cX4_week : ByteArray := prog_6_method_26_code
def yX4_week : MethodName := ⟨RX4, "week", "()I"⟩
abbrev cX4_nextWeek : ByteArray := prog_6_method_27_code
def yX4_nextWeek : MethodName := ⟨RX4, "nextWeek", "()I"⟩
abbrev cX4_isKind : ByteArray := prog_6_method_28_code
def yX4_isKind : MethodName := ⟨RX4, "isKind", "(C)Z"⟩
abbrev cX4_plan : ByteArray := prog_6_method_29_code
def yX4_plan : MethodName := ⟨RX4, "plan", "(ICI)I"⟩
abbrev cX4_isInForce : ByteArray := prog_6_method_30_code
def yX4_isInForce : MethodName := ⟨RX4, "isInForce", "(I)Z"⟩
abbrev cX4_heldBy : ByteArray := prog_6_method_31_code
def yX4_heldBy : MethodName := ⟨RX4, "heldBy", "(I)I"⟩
abbrev cX4_drop : ByteArray := prog_6_method_32_code
def yX4_drop : MethodName := ⟨RX4, "drop", "(I)I"⟩
abbrev cX4_wrongPlan : ByteArray := prog_6_method_33_code
def yX4_wrongPlan : MethodName := ⟨RX4, "wrongPlan", "(I)I"⟩
abbrev cX4_held : ByteArray := prog_6_method_34_code
def yX4_held : MethodName := ⟨RX4, "held", "(I)I"⟩
abbrev cX4_heldAt : ByteArray := prog_6_method_35_code
def yX4_heldAt : MethodName := ⟨RX4, "heldAt", "(II)I"⟩
abbrev cX4_lacks : ByteArray := prog_6_method_36_code
def yX4_lacks : MethodName := ⟨RX4, "lacks", "(I)I"⟩
abbrev cX4_isHeld : ByteArray := prog_6_method_37_code
def yX4_isHeld : MethodName := ⟨RX4, "isHeld", "(I)Z"⟩
abbrev cX4_hasOn : ByteArray := prog_6_method_38_code
def yX4_hasOn : MethodName := ⟨RX4, "hasOn", "(II)Z"⟩
abbrev cX4_isFreeNow : ByteArray := prog_6_method_39_code
def yX4_isFreeNow : MethodName := ⟨RX4, "isFreeNow", "(I)Z"⟩
abbrev cX4_isFree : ByteArray := prog_6_method_40_code
def yX4_isFree : MethodName := ⟨RX4, "isFree", "(I)Z"⟩
abbrev cX4_hasTwinIn : ByteArray := prog_6_method_41_code
def yX4_hasTwinIn : MethodName := ⟨RX4, "hasTwinIn", "(III)Z"⟩
abbrev cX4_settle : ByteArray := prog_6_method_42_code
def yX4_settle : MethodName := ⟨RX4, "settle", "()V"⟩
abbrev cX4_isCandidate : ByteArray := prog_6_method_43_code
def yX4_isCandidate : MethodName := ⟨RX4, "isCandidate", "(ICI)Z"⟩
abbrev cX4_candidate : ByteArray := prog_6_method_44_code
def yX4_candidate : MethodName := ⟨RX4, "candidate", "(ICI)I"⟩
abbrev cX4_quiz : ByteArray := prog_6_method_45_code
def yX4_quiz : MethodName := ⟨RX4, "quiz", "(IIII)I"⟩
abbrev cX4_isTrial : ByteArray := prog_6_method_46_code
def yX4_isTrial : MethodName := ⟨RX4, "isTrial", "(ICI)Z"⟩
abbrev cX4_canDraw : ByteArray := prog_6_method_47_code
def yX4_canDraw : MethodName := ⟨RX4, "canDraw", "(IIII)Z"⟩
abbrev cX4_made : ByteArray := prog_6_method_48_code
def yX4_made : MethodName := ⟨RX4, "made", "(I)V"⟩
abbrev cX4_quizOf : ByteArray := prog_6_method_49_code
def yX4_quizOf : MethodName := ⟨RX4, "quizOf", "(I)I"⟩
abbrev cX4_wrongSheet : ByteArray := prog_6_method_50_code
def yX4_wrongSheet : MethodName := ⟨RX4, "wrongSheet", "(I)I"⟩
abbrev cX4_size : ByteArray := prog_6_method_51_code
def yX4_size : MethodName := ⟨RX4, "size", "(I)I"⟩
abbrev cX4_questionAt : ByteArray := prog_6_method_52_code
def yX4_questionAt : MethodName := ⟨RX4, "questionAt", "(II)I"⟩
abbrev cX4_stateOf : ByteArray := prog_6_method_53_code
def yX4_stateOf : MethodName := ⟨RX4, "stateOf", "(I)C"⟩
abbrev cX4_waiting : ByteArray := prog_6_method_54_code
def yX4_waiting : MethodName := ⟨RX4, "waiting", "()I"⟩
abbrev cX4_setJam : ByteArray := prog_6_method_55_code
def yX4_setJam : MethodName := ⟨RX4, "setJam", "(Z)Z"⟩
abbrev cX4_print : ByteArray := prog_6_method_56_code
def yX4_print : MethodName := ⟨RX4, "print", "()I"⟩
abbrev cX4_cancel : ByteArray := prog_6_method_57_code
def yX4_cancel : MethodName := ⟨RX4, "cancel", "(I)I"⟩
abbrev cX4_answer : ByteArray := prog_6_method_58_code
def yX4_answer : MethodName := ⟨RX4, "answer", "(IIZ)I"⟩
abbrev cX4_put : ByteArray := prog_6_method_59_code
def yX4_put : MethodName := ⟨RX4, "put", "(C)V"⟩
abbrev cX4_putNumber : ByteArray := prog_6_method_60_code
def yX4_putNumber : MethodName := ⟨RX4, "putNumber", "(I)V"⟩
abbrev cX4_textOf : ByteArray := prog_6_method_61_code
def yX4_textOf : MethodName := ⟨RX4, "textOf", "(II)C"⟩
abbrev cX4_answers : ByteArray := prog_6_method_62_code
def yX4_answers : MethodName := ⟨RX4, "answers", "()I"⟩
abbrev cX4_allLevels : ByteArray := prog_6_method_63_code
def yX4_allLevels : MethodName := ⟨RX4, "allLevels", "()J"⟩
abbrev cX4_rightShare : ByteArray := prog_6_method_64_code
def yX4_rightShare : MethodName := ⟨RX4, "rightShare", "()F"⟩
abbrev cX4_meanLevel : ByteArray := prog_6_method_65_code
def yX4_meanLevel : MethodName := ⟨RX4, "meanLevel", "()D"⟩
abbrev cX4_isSound : ByteArray := prog_6_method_66_code
def yX4_isSound : MethodName := ⟨RX4, "isSound", "()Z"⟩
def RJx145de : String := "java/io/Serializable"
def TJx145de : u_T := fun k => match k with
  | _ => ("", "", "", false)
def tyJx145de : Nat → FieldType := fun k => match k with
  | _ => .int
abbrev wsJx145de0 : List Cond := u_ws RJx145de TJx145de 0
theorem nmJx145de : ∀ a, a < 0 → ∀ b, b < 0 → a ≠ b → (TJx145de a).2.1 ≠ (TJx145de b).2.1 := by decide +kernel
theorem tyJx145de_ok : ∀ k, k < 0 → parseFieldDescriptor (TJx145de k).2.2.1 = some (tyJx145de k) := by decide +kernel
def RJ5 : String := "java/lang/AbstractStringBuilder"
def TJ5 : u_T := fun k => match k with
  | _ => ("", "", "", false)
def tyJ5 : Nat → FieldType := fun k => match k with
  | _ => .int
abbrev wsJ50 : List Cond := u_ws RJ5 TJ5 0
theorem nmJ5 : ∀ a, a < 0 → ∀ b, b < 0 → a ≠ b → (TJ5 a).2.1 ≠ (TJ5 b).2.1 := by decide +kernel
theorem tyJ5_ok : ∀ k, k < 0 → parseFieldDescriptor (TJ5 k).2.2.1 = some (tyJ5 k) := by decide +kernel
abbrev cJ5_init_d00df : ByteArray := prog_8_method_2_code
def yJ5_init_d00df : MethodName := ⟨RJ5, "<init>", "(I)V"⟩
abbrev cJ5_length_8abf5 : ByteArray := prog_8_method_6_code
def yJ5_length_8abf5 : MethodName := ⟨RJ5, "length", "()I"⟩
abbrev cJ5_ensureCapacityInternal_d00df : ByteArray := prog_8_method_9_code
def yJ5_ensureCapacityInternal_d00df : MethodName := ⟨RJ5, "ensureCapacityInternal", "(I)V"⟩
abbrev cJ5_newCapacity_0f7a4 : ByteArray := prog_8_method_10_code
def yJ5_newCapacity_0f7a4 : MethodName := ⟨RJ5, "newCapacity", "(I)I"⟩
abbrev cJ5_inflate_da8c8 : ByteArray := prog_8_method_11_code
def yJ5_inflate_da8c8 : MethodName := ⟨RJ5, "inflate", "()V"⟩
abbrev cJ5_setLength_d00df : ByteArray := prog_8_method_13_code
def yJ5_setLength_d00df : MethodName := ⟨RJ5, "setLength", "(I)V"⟩
abbrev cJ5_charAt_5068e : ByteArray := prog_8_method_14_code
def yJ5_charAt_5068e : MethodName := ⟨RJ5, "charAt", "(I)C"⟩
abbrev cJ5_append_cf1ce : ByteArray := prog_8_method_22_code
def yJ5_append_cf1ce : MethodName := ⟨RJ5, "append", "(Ljava/lang/String;)Ljava/lang/AbstractStringBuilder;"⟩
abbrev cJ5_appendNull_278bc : ByteArray := prog_8_method_26_code
def yJ5_appendNull_278bc : MethodName := ⟨RJ5, "appendNull", "()Ljava/lang/AbstractStringBuilder;"⟩
abbrev cJ5_append_3fe6f : ByteArray := prog_8_method_31_code
def yJ5_append_3fe6f : MethodName := ⟨RJ5, "append", "(C)Ljava/lang/AbstractStringBuilder;"⟩
abbrev cJ5_append_c97b9 : ByteArray := prog_8_method_32_code
def yJ5_append_c97b9 : MethodName := ⟨RJ5, "append", "(I)Ljava/lang/AbstractStringBuilder;"⟩
abbrev cJ5_getValue_6d5f1 : ByteArray := prog_8_method_64_code
def yJ5_getValue_6d5f1 : MethodName := ⟨RJ5, "getValue", "()[B"⟩
abbrev cJ5_isLatin1_aae02 : ByteArray := prog_8_method_68_code
def yJ5_isLatin1_aae02 : MethodName := ⟨RJ5, "isLatin1", "()Z"⟩
abbrev cJ5_inflateIfNeededFor_a7421 : ByteArray := prog_8_method_71_code
def yJ5_inflateIfNeededFor_a7421 : MethodName := ⟨RJ5, "inflateIfNeededFor", "(Ljava/lang/String;)V"⟩
abbrev cJ5_putStringAt_47b60 : ByteArray := prog_8_method_73_code
def yJ5_putStringAt_47b60 : MethodName := ⟨RJ5, "putStringAt", "(ILjava/lang/String;)V"⟩
def RJx2cfe8 : String := "java/lang/Appendable"
def TJx2cfe8 : u_T := fun k => match k with
  | _ => ("", "", "", false)
def tyJx2cfe8 : Nat → FieldType := fun k => match k with
  | _ => .int
abbrev wsJx2cfe80 : List Cond := u_ws RJx2cfe8 TJx2cfe8 0
theorem nmJx2cfe8 : ∀ a, a < 0 → ∀ b, b < 0 → a ≠ b → (TJx2cfe8 a).2.1 ≠ (TJx2cfe8 b).2.1 := by decide +kernel
theorem tyJx2cfe8_ok : ∀ k, k < 0 → parseFieldDescriptor (TJx2cfe8 k).2.2.1 = some (tyJx2cfe8 k) := by decide +kernel
def RJx00060 : String := "java/lang/ArrayIndexOutOfBoundsException"
def TJx00060 : u_T := fun k => match k with
  | 0 => ("java/lang/Throwable", "backtrace", "Ljava/lang/Object;", false)
  | 1 => ("java/lang/Throwable", "detailMessage", "Ljava/lang/String;", false)
  | 2 => ("java/lang/Throwable", "cause", "Ljava/lang/Throwable;", false)
  | 3 => ("java/lang/Throwable", "stackTrace", "[Ljava/lang/StackTraceElement;", false)
  | 4 => ("java/lang/Throwable", "depth", "I", false)
  | _ => ("java/lang/Throwable", "suppressedExceptions", "Ljava/util/List;", false)
def tyJx00060 : Nat → FieldType := fun k => match k with
  | 0 => .object "java/lang/Object"
  | 1 => .object "java/lang/String"
  | 2 => .object "java/lang/Throwable"
  | 3 => .array (.object "java/lang/StackTraceElement")
  | 4 => .int
  | _ => .object "java/util/List"
abbrev wsJx000600 : List Cond := u_ws RJx00060 TJx00060 6
theorem nmJx00060 : ∀ a, a < 6 → ∀ b, b < 6 → a ≠ b → (TJx00060 a).2.1 ≠ (TJx00060 b).2.1 := by decide +kernel
theorem tyJx00060_ok : ∀ k, k < 6 → parseFieldDescriptor (TJx00060 k).2.2.1 = some (tyJx00060 k) := by decide +kernel
abbrev cJx00060_init_a7421 : ByteArray := prog_11_method_2_code
def yJx00060_init_a7421 : MethodName := ⟨RJx00060, "<init>", "(Ljava/lang/String;)V"⟩
abbrev cJx00060_init_d00df : ByteArray := prog_11_method_3_code
def yJx00060_init_d00df : MethodName := ⟨RJx00060, "<init>", "(I)V"⟩
def RJx9f9b0 : String := "java/lang/CharSequence"
def TJx9f9b0 : u_T := fun k => match k with
  | _ => ("", "", "", false)
def tyJx9f9b0 : Nat → FieldType := fun k => match k with
  | _ => .int
abbrev wsJx9f9b00 : List Cond := u_ws RJx9f9b0 TJx9f9b0 0
theorem nmJx9f9b0 : ∀ a, a < 0 → ∀ b, b < 0 → a ≠ b → (TJx9f9b0 a).2.1 ≠ (TJx9f9b0 b).2.1 := by decide +kernel
theorem tyJx9f9b0_ok : ∀ k, k < 0 → parseFieldDescriptor (TJx9f9b0 k).2.2.1 = some (tyJx9f9b0 k) := by decide +kernel
def RJx8e188 : String := "java/lang/Cloneable"
def TJx8e188 : u_T := fun k => match k with
  | _ => ("", "", "", false)
def tyJx8e188 : Nat → FieldType := fun k => match k with
  | _ => .int
abbrev wsJx8e1880 : List Cond := u_ws RJx8e188 TJx8e188 0
theorem nmJx8e188 : ∀ a, a < 0 → ∀ b, b < 0 → a ≠ b → (TJx8e188 a).2.1 ≠ (TJx8e188 b).2.1 := by decide +kernel
theorem tyJx8e188_ok : ∀ k, k < 0 → parseFieldDescriptor (TJx8e188 k).2.2.1 = some (tyJx8e188 k) := by decide +kernel
def RJxb160c : String := "java/lang/Comparable"
def TJxb160c : u_T := fun k => match k with
  | _ => ("", "", "", false)
def tyJxb160c : Nat → FieldType := fun k => match k with
  | _ => .int
abbrev wsJxb160c0 : List Cond := u_ws RJxb160c TJxb160c 0
theorem nmJxb160c : ∀ a, a < 0 → ∀ b, b < 0 → a ≠ b → (TJxb160c a).2.1 ≠ (TJxb160c b).2.1 := by decide +kernel
theorem tyJxb160c_ok : ∀ k, k < 0 → parseFieldDescriptor (TJxb160c k).2.2.1 = some (tyJxb160c k) := by decide +kernel
def RJ6 : String := "java/lang/Integer"
def TJ6 : u_T := fun k => match k with
  | _ => ("", "", "", false)
def tyJ6 : Nat → FieldType := fun k => match k with
  | _ => .int
abbrev wsJ60 : List Cond := u_ws RJ6 TJ6 0
theorem nmJ6 : ∀ a, a < 0 → ∀ b, b < 0 → a ≠ b → (TJ6 a).2.1 ≠ (TJ6 b).2.1 := by decide +kernel
theorem tyJ6_ok : ∀ k, k < 0 → parseFieldDescriptor (TJ6 k).2.2.1 = some (tyJ6 k) := by decide +kernel
abbrev cJ6_getChars_ba4f3 : ByteArray := prog_19_method_12_code
def yJ6_getChars_ba4f3 : MethodName := ⟨RJ6, "getChars", "(II[B)I"⟩
abbrev cJ6_stringSize_0f7a4 : ByteArray := prog_19_method_13_code
def yJ6_stringSize_0f7a4 : MethodName := ⟨RJ6, "stringSize", "(I)I"⟩
def RJxab1ab : String := "java/lang/Iterable"
def TJxab1ab : u_T := fun k => match k with
  | _ => ("", "", "", false)
def tyJxab1ab : Nat → FieldType := fun k => match k with
  | _ => .int
abbrev wsJxab1ab0 : List Cond := u_ws RJxab1ab TJxab1ab 0
theorem nmJxab1ab : ∀ a, a < 0 → ∀ b, b < 0 → a ≠ b → (TJxab1ab a).2.1 ≠ (TJxab1ab b).2.1 := by decide +kernel
theorem tyJxab1ab_ok : ∀ k, k < 0 → parseFieldDescriptor (TJxab1ab k).2.2.1 = some (tyJxab1ab k) := by decide +kernel
def RJ9 : String := "java/lang/Math"
def TJ9 : u_T := fun k => match k with
  | _ => ("", "", "", false)
def tyJ9 : Nat → FieldType := fun k => match k with
  | _ => .int
abbrev wsJ90 : List Cond := u_ws RJ9 TJ9 0
theorem nmJ9 : ∀ a, a < 0 → ∀ b, b < 0 → a ≠ b → (TJ9 a).2.1 ≠ (TJ9 b).2.1 := by decide +kernel
theorem tyJ9_ok : ∀ k, k < 0 → parseFieldDescriptor (TJ9 k).2.2.1 = some (tyJ9 k) := by decide +kernel
abbrev cJ9_floorMod_7cf53 : ByteArray := prog_21_method_50_code
def yJ9_floorMod_7cf53 : MethodName := ⟨RJ9, "floorMod", "(II)I"⟩
abbrev cJ9_max_7cf53 : ByteArray := prog_21_method_65_code
def yJ9_max_7cf53 : MethodName := ⟨RJ9, "max", "(II)I"⟩
abbrev cJ9_min_7cf53 : ByteArray := prog_21_method_69_code
def yJ9_min_7cf53 : MethodName := ⟨RJ9, "min", "(II)I"⟩
def RJxd2413 : String := "java/lang/Number"
def TJxd2413 : u_T := fun k => match k with
  | _ => ("", "", "", false)
def tyJxd2413 : Nat → FieldType := fun k => match k with
  | _ => .int
abbrev wsJxd24130 : List Cond := u_ws RJxd2413 TJxd2413 0
theorem nmJxd2413 : ∀ a, a < 0 → ∀ b, b < 0 → a ≠ b → (TJxd2413 a).2.1 ≠ (TJxd2413 b).2.1 := by decide +kernel
theorem tyJxd2413_ok : ∀ k, k < 0 → parseFieldDescriptor (TJxd2413 k).2.2.1 = some (tyJxd2413 k) := by decide +kernel
def RJ0 : String := "java/lang/String"
def TJ0 : u_T := fun k => match k with
  | 0 => ("java/lang/String", "value", "[B", true)
  | 1 => ("java/lang/String", "coder", "B", true)
  | 2 => ("java/lang/String", "hash", "I", false)
  | _ => ("java/lang/String", "hashIsZero", "Z", false)
def tyJ0 : Nat → FieldType := fun k => match k with
  | 0 => .array .byte
  | 1 => .byte
  | 2 => .int
  | _ => .boolean
abbrev wsJ00 : List Cond := u_ws RJ0 TJ0 4
theorem nmJ0 : ∀ a, a < 4 → ∀ b, b < 4 → a ≠ b → (TJ0 a).2.1 ≠ (TJ0 b).2.1 := by decide +kernel
theorem tyJ0_ok : ∀ k, k < 4 → parseFieldDescriptor (TJ0 k).2.2.1 = some (tyJ0 k) := by decide +kernel
abbrev cJ0_init_81219 : ByteArray := prog_24_method_53_code
def yJ0_init_81219 : MethodName := ⟨RJ0, "<init>", "(Ljava/lang/StringBuilder;)V"⟩
abbrev cJ0_length_8abf5 : ByteArray := prog_24_method_54_code
def yJ0_length_8abf5 : MethodName := ⟨RJ0, "length", "()I"⟩
abbrev cJ0_getBytes_840e7 : ByteArray := prog_24_method_147_code
def yJ0_getBytes_840e7 : MethodName := ⟨RJ0, "getBytes", "([BIB)V"⟩
abbrev cJ0_init_db425 : ByteArray := prog_24_method_150_code
def yJ0_init_db425 : MethodName := ⟨RJ0, "<init>", "(Ljava/lang/AbstractStringBuilder;Ljava/lang/Void;)V"⟩
abbrev cJ0_coder_7d493 : ByteArray := prog_24_method_152_code
def yJ0_coder_7d493 : MethodName := ⟨RJ0, "coder", "()B"⟩
abbrev cJ0_checkIndex_df160 : ByteArray := prog_24_method_155_code
def yJ0_checkIndex_df160 : MethodName := ⟨RJ0, "checkIndex", "(II)V"⟩
abbrev cJ0_checkBoundsOffCount_cabcc : ByteArray := prog_24_method_157_code
def yJ0_checkBoundsOffCount_cabcc : MethodName := ⟨RJ0, "checkBoundsOffCount", "(III)I"⟩
abbrev cJ0_checkBoundsBeginEnd_23922 : ByteArray := prog_24_method_158_code
def yJ0_checkBoundsBeginEnd_23922 : MethodName := ⟨RJ0, "checkBoundsBeginEnd", "(III)V"⟩
def RJ4 : String := "java/lang/StringBuilder"
def TJ4 : u_T := fun k => match k with
  | 0 => ("java/lang/AbstractStringBuilder", "value", "[B", false)
  | 1 => ("java/lang/AbstractStringBuilder", "coder", "B", false)
  | 2 => ("java/lang/AbstractStringBuilder", "maybeLatin1", "Z", false)
  | _ => ("java/lang/AbstractStringBuilder", "count", "I", false)
def tyJ4 : Nat → FieldType := fun k => match k with
  | 0 => .array .byte
  | 1 => .byte
  | 2 => .boolean
  | _ => .int
abbrev wsJ40 : List Cond := u_ws RJ4 TJ4 4
theorem nmJ4 : ∀ a, a < 4 → ∀ b, b < 4 → a ≠ b → (TJ4 a).2.1 ≠ (TJ4 b).2.1 := by decide +kernel
theorem tyJ4_ok : ∀ k, k < 4 → parseFieldDescriptor (TJ4 k).2.2.1 = some (tyJ4 k) := by decide +kernel
abbrev cJ4_init_da8c8 : ByteArray := prog_25_method_1_code
def yJ4_init_da8c8 : MethodName := ⟨RJ4, "<init>", "()V"⟩
abbrev cJ4_append_15ec4 : ByteArray := prog_25_method_7_code
def yJ4_append_15ec4 : MethodName := ⟨RJ4, "append", "(Ljava/lang/String;)Ljava/lang/StringBuilder;"⟩
abbrev cJ4_append_cf468 : ByteArray := prog_25_method_14_code
def yJ4_append_cf468 : MethodName := ⟨RJ4, "append", "(C)Ljava/lang/StringBuilder;"⟩
abbrev cJ4_append_bf812 : ByteArray := prog_25_method_15_code
def yJ4_append_bf812 : MethodName := ⟨RJ4, "append", "(I)Ljava/lang/StringBuilder;"⟩
abbrev cJ4_toString_0e30d : ByteArray := prog_25_method_42_code
def yJ4_toString_0e30d : MethodName := ⟨RJ4, "toString", "()Ljava/lang/String;"⟩
abbrev cJ4_charAt_5068e : ByteArray := prog_25_method_88_code
def yJ4_charAt_5068e : MethodName := ⟨RJ4, "charAt", "(I)C"⟩
abbrev cJ4_setLength_d00df : ByteArray := prog_25_method_89_code
def yJ4_setLength_d00df : MethodName := ⟨RJ4, "setLength", "(I)V"⟩
abbrev cJ4_length_8abf5 : ByteArray := prog_25_method_93_code
def yJ4_length_8abf5 : MethodName := ⟨RJ4, "length", "()I"⟩
def RJx7c733 : String := "java/lang/StringIndexOutOfBoundsException"
def TJx7c733 : u_T := fun k => match k with
  | 0 => ("java/lang/Throwable", "backtrace", "Ljava/lang/Object;", false)
  | 1 => ("java/lang/Throwable", "detailMessage", "Ljava/lang/String;", false)
  | 2 => ("java/lang/Throwable", "cause", "Ljava/lang/Throwable;", false)
  | 3 => ("java/lang/Throwable", "stackTrace", "[Ljava/lang/StackTraceElement;", false)
  | 4 => ("java/lang/Throwable", "depth", "I", false)
  | _ => ("java/lang/Throwable", "suppressedExceptions", "Ljava/util/List;", false)
def tyJx7c733 : Nat → FieldType := fun k => match k with
  | 0 => .object "java/lang/Object"
  | 1 => .object "java/lang/String"
  | 2 => .object "java/lang/Throwable"
  | 3 => .array (.object "java/lang/StackTraceElement")
  | 4 => .int
  | _ => .object "java/util/List"
abbrev wsJx7c7330 : List Cond := u_ws RJx7c733 TJx7c733 6
theorem nmJx7c733 : ∀ a, a < 6 → ∀ b, b < 6 → a ≠ b → (TJx7c733 a).2.1 ≠ (TJx7c733 b).2.1 := by decide +kernel
theorem tyJx7c733_ok : ∀ k, k < 6 → parseFieldDescriptor (TJx7c733 k).2.2.1 = some (tyJx7c733 k) := by decide +kernel
abbrev cJx7c733_init_d00df : ByteArray := prog_26_method_3_code
def yJx7c733_init_d00df : MethodName := ⟨RJx7c733, "<init>", "(I)V"⟩
def RJ1 : String := "java/lang/StringLatin1"
def TJ1 : u_T := fun k => match k with
  | _ => ("", "", "", false)
def tyJ1 : Nat → FieldType := fun k => match k with
  | _ => .int
abbrev wsJ10 : List Cond := u_ws RJ1 TJ1 0
theorem nmJ1 : ∀ a, a < 0 → ∀ b, b < 0 → a ≠ b → (TJ1 a).2.1 ≠ (TJ1 b).2.1 := by decide +kernel
theorem tyJ1_ok : ∀ k, k < 0 → parseFieldDescriptor (TJ1 k).2.2.1 = some (tyJ1 k) := by decide +kernel
abbrev cJ1_canEncode_fc78d : ByteArray := prog_27_method_3_code
def yJ1_canEncode_fc78d : MethodName := ⟨RJ1, "canEncode", "(C)Z"⟩
abbrev cJ1_fillNull_b72d1 : ByteArray := prog_27_method_48_code
def yJ1_fillNull_b72d1 : MethodName := ⟨RJ1, "fillNull", "([BII)V"⟩
abbrev cJ1_inflate_0e8fd : ByteArray := prog_27_method_50_code
def yJ1_inflate_0e8fd : MethodName := ⟨RJ1, "inflate", "([BI[BII)V"⟩
def RJ2 : String := "java/lang/StringUTF16"
def TJ2 : u_T := fun k => match k with
  | _ => ("", "", "", false)
def tyJ2 : Nat → FieldType := fun k => match k with
  | _ => .int
abbrev wsJ20 : List Cond := u_ws RJ2 TJ2 0
theorem nmJ2 : ∀ a, a < 0 → ∀ b, b < 0 → a ≠ b → (TJ2 a).2.1 ≠ (TJ2 b).2.1 := by decide +kernel
theorem tyJ2_ok : ∀ k, k < 0 → parseFieldDescriptor (TJ2 k).2.2.1 = some (tyJ2 k) := by decide +kernel
abbrev cJ2_newBytesFor_77867 : ByteArray := prog_28_method_2_code
def yJ2_newBytesFor_77867 : MethodName := ⟨RJ2, "newBytesFor", "(I)[B"⟩
abbrev cJ2_newBytesLength_0f7a4 : ByteArray := prog_28_method_3_code
def yJ2_newBytesLength_0f7a4 : MethodName := ⟨RJ2, "newBytesLength", "(I)I"⟩
abbrev cJ2_putChar_b72d1 : ByteArray := prog_28_method_4_code
def yJ2_putChar_b72d1 : MethodName := ⟨RJ2, "putChar", "([BII)V"⟩
abbrev cJ2_getChar_3b067 : ByteArray := prog_28_method_5_code
def yJ2_getChar_3b067 : MethodName := ⟨RJ2, "getChar", "([BI)C"⟩
abbrev cJ2_length_9d52b : ByteArray := prog_28_method_6_code
def yJ2_length_9d52b : MethodName := ⟨RJ2, "length", "([B)I"⟩
abbrev cJ2_coderFromArrayLen_85cad : ByteArray := prog_28_method_15_code
def yJ2_coderFromArrayLen_85cad : MethodName := ⟨RJ2, "coderFromArrayLen", "([BI)B"⟩
abbrev cJ2_compress_39247 : ByteArray := prog_28_method_17_code
def yJ2_compress_39247 : MethodName := ⟨RJ2, "compress", "([BII)[B"⟩
abbrev cJ2_compress_5af95 : ByteArray := prog_28_method_22_code
def yJ2_compress_5af95 : MethodName := ⟨RJ2, "compress", "([BI[BII)I"⟩
abbrev cJ2_fillNull_b72d1 : ByteArray := prog_28_method_70_code
def yJ2_fillNull_b72d1 : MethodName := ⟨RJ2, "fillNull", "([BII)V"⟩
abbrev cJ2_putCharSB_b72d1 : ByteArray := prog_28_method_71_code
def yJ2_putCharSB_b72d1 : MethodName := ⟨RJ2, "putCharSB", "([BII)V"⟩
abbrev cJ2_getChars_46870 : ByteArray := prog_28_method_77_code
def yJ2_getChars_46870 : MethodName := ⟨RJ2, "getChars", "(III[B)I"⟩
abbrev cJ2_putCharsAt_cd4e5 : ByteArray := prog_28_method_81_code
def yJ2_putCharsAt_cd4e5 : MethodName := ⟨RJ2, "putCharsAt", "([BICCCC)I"⟩
abbrev cJ2_inflate_0e8fd : ByteArray := prog_28_method_86_code
def yJ2_inflate_0e8fd : MethodName := ⟨RJ2, "inflate", "([BI[BII)V"⟩
abbrev cJ2_getChars_ba4f3 : ByteArray := prog_28_method_89_code
def yJ2_getChars_ba4f3 : MethodName := ⟨RJ2, "getChars", "(II[B)I"⟩
abbrev cJ2_checkIndex_2214a : ByteArray := prog_28_method_91_code
def yJ2_checkIndex_2214a : MethodName := ⟨RJ2, "checkIndex", "(I[B)V"⟩
abbrev cJ2_checkBoundsBeginEnd_d044e : ByteArray := prog_28_method_93_code
def yJ2_checkBoundsBeginEnd_d044e : MethodName := ⟨RJ2, "checkBoundsBeginEnd", "(II[B)V"⟩
abbrev cJ2_checkBoundsOffCount_d044e : ByteArray := prog_28_method_94_code
def yJ2_checkBoundsOffCount_d044e : MethodName := ⟨RJ2, "checkBoundsOffCount", "(II[B)V"⟩
def RJ10 : String := "java/lang/System"
def TJ10 : u_T := fun k => match k with
  | _ => ("", "", "", false)
def tyJ10 : Nat → FieldType := fun k => match k with
  | _ => .int
abbrev wsJ100 : List Cond := u_ws RJ10 TJ10 0
theorem nmJ10 : ∀ a, a < 0 → ∀ b, b < 0 → a ≠ b → (TJ10 a).2.1 ≠ (TJ10 b).2.1 := by decide +kernel
theorem tyJ10_ok : ∀ k, k < 0 → parseFieldDescriptor (TJ10 k).2.2.1 = some (tyJ10 k) := by decide +kernel
def RJxfd54e : String := "java/lang/constant/Constable"
def TJxfd54e : u_T := fun k => match k with
  | _ => ("", "", "", false)
def tyJxfd54e : Nat → FieldType := fun k => match k with
  | _ => .int
abbrev wsJxfd54e0 : List Cond := u_ws RJxfd54e TJxfd54e 0
theorem nmJxfd54e : ∀ a, a < 0 → ∀ b, b < 0 → a ≠ b → (TJxfd54e a).2.1 ≠ (TJxfd54e b).2.1 := by decide +kernel
theorem tyJxfd54e_ok : ∀ k, k < 0 → parseFieldDescriptor (TJxfd54e k).2.2.1 = some (tyJxfd54e k) := by decide +kernel
def RJx3cf43 : String := "java/lang/constant/ConstantDesc"
def TJx3cf43 : u_T := fun k => match k with
  | _ => ("", "", "", false)
def tyJx3cf43 : Nat → FieldType := fun k => match k with
  | _ => .int
abbrev wsJx3cf430 : List Cond := u_ws RJx3cf43 TJx3cf43 0
theorem nmJx3cf43 : ∀ a, a < 0 → ∀ b, b < 0 → a ≠ b → (TJx3cf43 a).2.1 ≠ (TJx3cf43 b).2.1 := by decide +kernel
theorem tyJx3cf43_ok : ∀ k, k < 0 → parseFieldDescriptor (TJx3cf43 k).2.2.1 = some (tyJx3cf43 k) := by decide +kernel
def RJxa1e45 : String := "java/util/AbstractCollection"
def TJxa1e45 : u_T := fun k => match k with
  | _ => ("", "", "", false)
def tyJxa1e45 : Nat → FieldType := fun k => match k with
  | _ => .int
abbrev wsJxa1e450 : List Cond := u_ws RJxa1e45 TJxa1e45 0
theorem nmJxa1e45 : ∀ a, a < 0 → ∀ b, b < 0 → a ≠ b → (TJxa1e45 a).2.1 ≠ (TJxa1e45 b).2.1 := by decide +kernel
theorem tyJxa1e45_ok : ∀ k, k < 0 → parseFieldDescriptor (TJxa1e45 k).2.2.1 = some (tyJxa1e45 k) := by decide +kernel
abbrev cJxa1e45_init_da8c8 : ByteArray := prog_34_method_1_code
def yJxa1e45_init_da8c8 : MethodName := ⟨RJxa1e45, "<init>", "()V"⟩
def RJxc12de : String := "java/util/AbstractList"
def TJxc12de : u_T := fun k => match k with
  | _ => ("", "", "", false)
def tyJxc12de : Nat → FieldType := fun k => match k with
  | _ => .int
abbrev wsJxc12de0 : List Cond := u_ws RJxc12de TJxc12de 0
theorem nmJxc12de : ∀ a, a < 0 → ∀ b, b < 0 → a ≠ b → (TJxc12de a).2.1 ≠ (TJxc12de b).2.1 := by decide +kernel
theorem tyJxc12de_ok : ∀ k, k < 0 → parseFieldDescriptor (TJxc12de k).2.2.1 = some (tyJxc12de k) := by decide +kernel
abbrev cJxc12de_init_da8c8 : ByteArray := prog_35_method_1_code
def yJxc12de_init_da8c8 : MethodName := ⟨RJxc12de, "<init>", "()V"⟩
def RJx4a65c : String := "java/util/ArrayList"
def TJx4a65c : u_T := fun k => match k with
  | 0 => ("java/util/AbstractList", "modCount", "I", false)
  | 1 => ("java/util/ArrayList", "elementData", "[Ljava/lang/Object;", false)
  | _ => ("java/util/ArrayList", "size", "I", false)
def tyJx4a65c : Nat → FieldType := fun k => match k with
  | 0 => .int
  | 1 => .array (.object "java/lang/Object")
  | _ => .int
abbrev wsJx4a65c0 : List Cond := u_ws RJx4a65c TJx4a65c 3
theorem nmJx4a65c : ∀ a, a < 3 → ∀ b, b < 3 → a ≠ b → (TJx4a65c a).2.1 ≠ (TJx4a65c b).2.1 := by decide +kernel
theorem tyJx4a65c_ok : ∀ k, k < 3 → parseFieldDescriptor (TJx4a65c k).2.2.1 = some (tyJx4a65c k) := by decide +kernel
abbrev cJx4a65c_init_da8c8 : ByteArray := prog_36_method_2_code
def yJx4a65c_init_da8c8 : MethodName := ⟨RJx4a65c, "<init>", "()V"⟩
abbrev cJx4a65c_grow_92f84 : ByteArray := prog_36_method_6_code
def yJx4a65c_grow_92f84 : MethodName := ⟨RJx4a65c, "grow", "(I)[Ljava/lang/Object;"⟩
abbrev cJx4a65c_grow_d5877 : ByteArray := prog_36_method_7_code
def yJx4a65c_grow_d5877 : MethodName := ⟨RJx4a65c, "grow", "()[Ljava/lang/Object;"⟩
abbrev cJx4a65c_size_8abf5 : ByteArray := prog_36_method_8_code
def yJx4a65c_size_8abf5 : MethodName := ⟨RJx4a65c, "size", "()I"⟩
abbrev cJx4a65c_isEmpty_aae02 : ByteArray := prog_36_method_9_code
def yJx4a65c_isEmpty_aae02 : MethodName := ⟨RJx4a65c, "isEmpty", "()Z"⟩
abbrev cJx4a65c_elementData_915e3 : ByteArray := prog_36_method_18_code
def yJx4a65c_elementData_915e3 : MethodName := ⟨RJx4a65c, "elementData", "(I)Ljava/lang/Object;"⟩
abbrev cJx4a65c_get_915e3 : ByteArray := prog_36_method_20_code
def yJx4a65c_get_915e3 : MethodName := ⟨RJx4a65c, "get", "(I)Ljava/lang/Object;"⟩
abbrev cJx4a65c_add_72be8 : ByteArray := prog_36_method_24_code
def yJx4a65c_add_72be8 : MethodName := ⟨RJx4a65c, "add", "(Ljava/lang/Object;[Ljava/lang/Object;I)V"⟩
abbrev cJx4a65c_add_9ea2d : ByteArray := prog_36_method_25_code
def yJx4a65c_add_9ea2d : MethodName := ⟨RJx4a65c, "add", "(Ljava/lang/Object;)Z"⟩
abbrev cJx4a65c_add_7a177 : ByteArray := prog_36_method_26_code
def yJx4a65c_add_7a177 : MethodName := ⟨RJx4a65c, "add", "(ILjava/lang/Object;)V"⟩
abbrev cJx4a65c_remove_915e3 : ByteArray := prog_36_method_29_code
def yJx4a65c_remove_915e3 : MethodName := ⟨RJx4a65c, "remove", "(I)Ljava/lang/Object;"⟩
abbrev cJx4a65c_fastRemove_b59b0 : ByteArray := prog_36_method_39_code
def yJx4a65c_fastRemove_b59b0 : MethodName := ⟨RJx4a65c, "fastRemove", "([Ljava/lang/Object;I)V"⟩
abbrev cJx4a65c_clear_da8c8 : ByteArray := prog_36_method_40_code
def yJx4a65c_clear_da8c8 : MethodName := ⟨RJx4a65c, "clear", "()V"⟩
abbrev cJx4a65c_rangeCheckForAdd_d00df : ByteArray := prog_36_method_45_code
def yJx4a65c_rangeCheckForAdd_d00df : MethodName := ⟨RJx4a65c, "rangeCheckForAdd", "(I)V"⟩
abbrev cJx4a65c_outOfBoundsMsg_b52d3 : ByteArray := prog_36_method_46_code
def yJx4a65c_outOfBoundsMsg_b52d3 : MethodName := ⟨RJx4a65c, "outOfBoundsMsg", "(I)Ljava/lang/String;"⟩
def RJ7 : String := "java/util/Arrays"
def TJ7 : u_T := fun k => match k with
  | _ => ("", "", "", false)
def tyJ7 : Nat → FieldType := fun k => match k with
  | _ => .int
abbrev wsJ70 : List Cond := u_ws RJ7 TJ7 0
theorem nmJ7 : ∀ a, a < 0 → ∀ b, b < 0 → a ≠ b → (TJ7 a).2.1 ≠ (TJ7 b).2.1 := by decide +kernel
theorem tyJ7_ok : ∀ k, k < 0 → parseFieldDescriptor (TJ7 k).2.2.1 = some (tyJ7 k) := by decide +kernel
abbrev cJ7_rangeCheck_23922 : ByteArray := prog_37_method_30_code
def yJ7_rangeCheck_23922 : MethodName := ⟨RJ7, "rangeCheck", "(III)V"⟩
abbrev cJ7_fill_eb02e : ByteArray := prog_37_method_110_code
def yJ7_fill_eb02e : MethodName := ⟨RJ7, "fill", "([BIIB)V"⟩
abbrev cJ7_copyOf_1904c : ByteArray := prog_37_method_119_code
def yJ7_copyOf_1904c : MethodName := ⟨RJ7, "copyOf", "([Ljava/lang/Object;I)[Ljava/lang/Object;"⟩
abbrev cJ7_copyOf_6403c : ByteArray := prog_37_method_120_code
def yJ7_copyOf_6403c : MethodName := ⟨RJ7, "copyOf", "([Ljava/lang/Object;ILjava/lang/Class;)[Ljava/lang/Object;"⟩
abbrev cJ7_copyOf_9075b : ByteArray := prog_37_method_121_code
def yJ7_copyOf_9075b : MethodName := ⟨RJ7, "copyOf", "([BI)[B"⟩
abbrev cJ7_copyOf_59c91 : ByteArray := prog_37_method_123_code
def yJ7_copyOf_59c91 : MethodName := ⟨RJ7, "copyOf", "([II)[I"⟩
abbrev cJ7_checkLength_df160 : ByteArray := prog_37_method_131_code
def yJ7_checkLength_df160 : MethodName := ⟨RJ7, "checkLength", "(II)V"⟩
abbrev cJ7_copyOfRange_39247 : ByteArray := prog_37_method_132_code
def yJ7_copyOfRange_39247 : MethodName := ⟨RJ7, "copyOfRange", "([BII)[B"⟩
abbrev cJ7_copyOfRangeByte_39247 : ByteArray := prog_37_method_133_code
def yJ7_copyOfRangeByte_39247 : MethodName := ⟨RJ7, "copyOfRangeByte", "([BII)[B"⟩
def RJx5ef63 : String := "java/util/Collection"
def TJx5ef63 : u_T := fun k => match k with
  | _ => ("", "", "", false)
def tyJx5ef63 : Nat → FieldType := fun k => match k with
  | _ => .int
abbrev wsJx5ef630 : List Cond := u_ws RJx5ef63 TJx5ef63 0
theorem nmJx5ef63 : ∀ a, a < 0 → ∀ b, b < 0 → a ≠ b → (TJx5ef63 a).2.1 ≠ (TJx5ef63 b).2.1 := by decide +kernel
theorem tyJx5ef63_ok : ∀ k, k < 0 → parseFieldDescriptor (TJx5ef63 k).2.2.1 = some (tyJx5ef63 k) := by decide +kernel
def RJxbd725 : String := "java/util/List"
def TJxbd725 : u_T := fun k => match k with
  | _ => ("", "", "", false)
def tyJxbd725 : Nat → FieldType := fun k => match k with
  | _ => .int
abbrev wsJxbd7250 : List Cond := u_ws RJxbd725 TJxbd725 0
theorem nmJxbd725 : ∀ a, a < 0 → ∀ b, b < 0 → a ≠ b → (TJxbd725 a).2.1 ≠ (TJxbd725 b).2.1 := by decide +kernel
theorem tyJxbd725_ok : ∀ k, k < 0 → parseFieldDescriptor (TJxbd725 k).2.2.1 = some (tyJxbd725 k) := by decide +kernel
def RJ15 : String := "java/util/Objects"
def TJ15 : u_T := fun k => match k with
  | _ => ("", "", "", false)
def tyJ15 : Nat → FieldType := fun k => match k with
  | _ => .int
abbrev wsJ150 : List Cond := u_ws RJ15 TJ15 0
theorem nmJ15 : ∀ a, a < 0 → ∀ b, b < 0 → a ≠ b → (TJ15 a).2.1 ≠ (TJ15 b).2.1 := by decide +kernel
theorem tyJ15_ok : ∀ k, k < 0 → parseFieldDescriptor (TJ15 k).2.2.1 = some (tyJ15 k) := by decide +kernel
abbrev cJ15_checkIndex_7cf53 : ByteArray := prog_41_method_17_code
def yJ15_checkIndex_7cf53 : MethodName := ⟨RJ15, "checkIndex", "(II)I"⟩
def RJxf0a74 : String := "java/util/RandomAccess"
def TJxf0a74 : u_T := fun k => match k with
  | _ => ("", "", "", false)
def tyJxf0a74 : Nat → FieldType := fun k => match k with
  | _ => .int
abbrev wsJxf0a740 : List Cond := u_ws RJxf0a74 TJxf0a74 0
theorem nmJxf0a74 : ∀ a, a < 0 → ∀ b, b < 0 → a ≠ b → (TJxf0a74 a).2.1 ≠ (TJxf0a74 b).2.1 := by decide +kernel
theorem tyJxf0a74_ok : ∀ k, k < 0 → parseFieldDescriptor (TJxf0a74 k).2.2.1 = some (tyJxf0a74 k) := by decide +kernel
def RJxa66e6 : String := "java/util/SequencedCollection"
def TJxa66e6 : u_T := fun k => match k with
  | _ => ("", "", "", false)
def tyJxa66e6 : Nat → FieldType := fun k => match k with
  | _ => .int
abbrev wsJxa66e60 : List Cond := u_ws RJxa66e6 TJxa66e6 0
theorem nmJxa66e6 : ∀ a, a < 0 → ∀ b, b < 0 → a ≠ b → (TJxa66e6 a).2.1 ≠ (TJxa66e6 b).2.1 := by decide +kernel
theorem tyJxa66e6_ok : ∀ k, k < 0 → parseFieldDescriptor (TJxa66e6 k).2.2.1 = some (tyJxa66e6 k) := by decide +kernel
def RJ8 : String := "jdk/internal/util/ArraysSupport"
def TJ8 : u_T := fun k => match k with
  | _ => ("", "", "", false)
def tyJ8 : Nat → FieldType := fun k => match k with
  | _ => .int
abbrev wsJ80 : List Cond := u_ws RJ8 TJ8 0
theorem nmJ8 : ∀ a, a < 0 → ∀ b, b < 0 → a ≠ b → (TJ8 a).2.1 ≠ (TJ8 b).2.1 := by decide +kernel
theorem tyJ8_ok : ∀ k, k < 0 → parseFieldDescriptor (TJ8 k).2.2.1 = some (tyJ8 k) := by decide +kernel
abbrev cJ8_newLength_cabcc : ByteArray := prog_44_method_27_code
def yJ8_newLength_cabcc : MethodName := ⟨RJ8, "newLength", "(III)I"⟩
abbrev cJ8_hugeLength_7cf53 : ByteArray := prog_44_method_28_code
def yJ8_hugeLength_7cf53 : MethodName := ⟨RJ8, "hugeLength", "(II)I"⟩
def RJ3 : String := "jdk/internal/util/Preconditions"
def TJ3 : u_T := fun k => match k with
  | _ => ("", "", "", false)
def tyJ3 : Nat → FieldType := fun k => match k with
  | _ => .int
abbrev wsJ30 : List Cond := u_ws RJ3 TJ3 0
theorem nmJ3 : ∀ a, a < 0 → ∀ b, b < 0 → a ≠ b → (TJ3 a).2.1 ≠ (TJ3 b).2.1 := by decide +kernel
theorem tyJ3_ok : ∀ k, k < 0 → parseFieldDescriptor (TJ3 k).2.2.1 = some (tyJ3 k) := by decide +kernel
abbrev cJ3_checkIndex_8e157 : ByteArray := prog_45_method_11_code
def yJ3_checkIndex_8e157 : MethodName := ⟨RJ3, "checkIndex", "(IILjava/util/function/BiFunction;)I"⟩
abbrev cJ3_checkFromToIndex_8c36e : ByteArray := prog_45_method_12_code
def yJ3_checkFromToIndex_8c36e : MethodName := ⟨RJ3, "checkFromToIndex", "(IIILjava/util/function/BiFunction;)I"⟩
abbrev cJ3_checkFromIndexSize_8c36e : ByteArray := prog_45_method_13_code
def yJ3_checkFromIndexSize_8c36e : MethodName := ⟨RJ3, "checkFromIndexSize", "(IIILjava/util/function/BiFunction;)I"⟩
def RL : String := "QuizspoolLaw"
abbrev cL_type : ByteArray := method_3_code
def yL_type : MethodName := ⟨RL, "type", "(LQuizspool;I[J)I"⟩
abbrev cL_add : ByteArray := method_4_code
def yL_add : MethodName := ⟨RL, "add", "(LQuizspool;I[J)I"⟩
abbrev cL_twin : ByteArray := method_5_code
def yL_twin : MethodName := ⟨RL, "twin", "(LQuizspool;II[J)I"⟩
abbrev cL_areTwins : ByteArray := method_6_code
def yL_areTwins : MethodName := ⟨RL, "areTwins", "(LQuizspool;II[J)I"⟩
abbrev cL_wordAt : ByteArray := method_7_code
def yL_wordAt : MethodName := ⟨RL, "wordAt", "(LQuizspool;II[J)I"⟩
abbrev cL_level : ByteArray := method_8_code
def yL_level : MethodName := ⟨RL, "level", "(LQuizspool;I[J)I"⟩
abbrev cL_levelAnew : ByteArray := method_9_code
def yL_levelAnew : MethodName := ⟨RL, "levelAnew", "(LQuizspool;I[J)I"⟩
abbrev cL_kind : ByteArray := method_10_code
def yL_kind : MethodName := ⟨RL, "kind", "(LQuizspool;I[J)I"⟩
abbrev cL_search : ByteArray := method_11_code
def yL_search : MethodName := ⟨RL, "search", "(LQuizspool;[J)I"⟩
abbrev cL_hitAt : ByteArray := method_12_code
def yL_hitAt : MethodName := ⟨RL, "hitAt", "(LQuizspool;I[J)I"⟩
abbrev cL_rankAt : ByteArray := method_13_code
def yL_rankAt : MethodName := ⟨RL, "rankAt", "(LQuizspool;I[J)I"⟩
abbrev cL_nextWeek : ByteArray := method_14_code
def yL_nextWeek : MethodName := ⟨RL, "nextWeek", "(LQuizspool;[J)I"⟩
abbrev cL_plan : ByteArray := method_15_code
def yL_plan : MethodName := ⟨RL, "plan", "(LQuizspool;ICI[J)I"⟩
abbrev cL_drop : ByteArray := method_16_code
def yL_drop : MethodName := ⟨RL, "drop", "(LQuizspool;I[J)I"⟩
abbrev cL_held : ByteArray := method_17_code
def yL_held : MethodName := ⟨RL, "held", "(LQuizspool;I[J)I"⟩
abbrev cL_heldAt : ByteArray := method_18_code
def yL_heldAt : MethodName := ⟨RL, "heldAt", "(LQuizspool;II[J)I"⟩
abbrev cL_lacks : ByteArray := method_19_code
def yL_lacks : MethodName := ⟨RL, "lacks", "(LQuizspool;I[J)I"⟩
abbrev cL_isFree : ByteArray := method_20_code
def yL_isFree : MethodName := ⟨RL, "isFree", "(LQuizspool;I[J)I"⟩
abbrev cL_quiz : ByteArray := method_21_code
def yL_quiz : MethodName := ⟨RL, "quiz", "(LQuizspool;IIII[J)I"⟩
abbrev cL_quizOf : ByteArray := method_22_code
def yL_quizOf : MethodName := ⟨RL, "quizOf", "(LQuizspool;I[J)I"⟩
abbrev cL_size : ByteArray := method_23_code
def yL_size : MethodName := ⟨RL, "size", "(LQuizspool;I[J)I"⟩
abbrev cL_questionAt : ByteArray := method_24_code
def yL_questionAt : MethodName := ⟨RL, "questionAt", "(LQuizspool;II[J)I"⟩
abbrev cL_stateOf : ByteArray := method_25_code
def yL_stateOf : MethodName := ⟨RL, "stateOf", "(LQuizspool;I[J)I"⟩
abbrev cL_print : ByteArray := method_26_code
def yL_print : MethodName := ⟨RL, "print", "(LQuizspool;[J)I"⟩
abbrev cL_cancel : ByteArray := method_27_code
def yL_cancel : MethodName := ⟨RL, "cancel", "(LQuizspool;I[J)I"⟩
abbrev cL_answer : ByteArray := method_28_code
def yL_answer : MethodName := ⟨RL, "answer", "(LQuizspool;IIZ[J)I"⟩
abbrev cL_textOf : ByteArray := method_29_code
def yL_textOf : MethodName := ⟨RL, "textOf", "(LQuizspool;II[J)I"⟩
abbrev cL_rightShare : ByteArray := method_30_code
def yL_rightShare : MethodName := ⟨RL, "rightShare", "(LQuizspool;[D)I"⟩
abbrev cL_meanLevel : ByteArray := method_31_code
def yL_meanLevel : MethodName := ⟨RL, "meanLevel", "(LQuizspool;[D)I"⟩
abbrev cL_law : ByteArray := code
def yL_law : MethodName := ⟨RL, "law", "([I)Z"⟩
abbrev vwCl : List vw_C := [(RJ0, TJ0, 4), (RJ4, TJ4, 4), (RJx00060, TJx00060, 6), (RJx7c733, TJx7c733, 6), (RJx4a65c, TJx4a65c, 3), (RX0, TX0, 5), (RX1, TX1, 11), (RX2, TX2, 3), (RX3, TX3, 13), (RX4, TX4, 31)]
end
section
theorem dX0_init_0 : decode cX0_init 0 = .ok (.aload_n 0, 1) := by decide +kernel
theorem dX0_init_1 : decode cX0_init 1 = .ok (.invokespecial 1, 3) := by decide +kernel
theorem dX0_init_4 : decode cX0_init 4 = .ok (.aload_n 0, 1) := by decide +kernel
theorem dX0_init_5 : decode cX0_init 5 = .ok (.new 7, 3) := by decide +kernel
theorem dX0_init_8 : decode cX0_init 8 = .ok (.dup, 1) := by decide +kernel
theorem dX0_init_9 : decode cX0_init 9 = .ok (.invokespecial 9, 3) := by decide +kernel
theorem dX0_init_12 : decode cX0_init 12 = .ok (.putfield 10, 3) := by decide +kernel
theorem dX0_init_15 : decode cX0_init 15 = .ok (.aload_n 0, 1) := by decide +kernel
theorem dX0_init_16 : decode cX0_init 16 = .ok (.iload_n 1, 1) := by decide +kernel
theorem dX0_init_17 : decode cX0_init 17 = .ok (.putfield 16, 3) := by decide +kernel
theorem dX0_init_20 : decode cX0_init 20 = .ok (.aload_n 0, 1) := by decide +kernel
theorem dX0_init_21 : decode cX0_init 21 = .ok (.iload_n 2, 1) := by decide +kernel
theorem dX0_init_22 : decode cX0_init 22 = .ok (.putfield 20, 3) := by decide +kernel
theorem dX0_init_25 : decode cX0_init 25 = .ok (.aload_n 0, 1) := by decide +kernel
theorem dX0_init_26 : decode cX0_init 26 = .ok (.iload_n 3, 1) := by decide +kernel
theorem dX0_init_27 : decode cX0_init 27 = .ok (.putfield 24, 3) := by decide +kernel
theorem dX0_init_30 : decode cX0_init 30 = .ok (.return_, 1) := by decide +kernel
theorem dX0_missing_0 : decode cX0_missing 0 = .ok (.aload_n 0, 1) := by decide +kernel
theorem dX0_missing_1 : decode cX0_missing 1 = .ok (.getfield 24, 3) := by decide +kernel
theorem dX0_missing_4 : decode cX0_missing 4 = .ok (.aload_n 0, 1) := by decide +kernel
theorem dX0_missing_5 : decode cX0_missing 5 = .ok (.getfield 10, 3) := by decide +kernel
theorem dX0_missing_8 : decode cX0_missing 8 = .ok (.invokevirtual 27, 3) := by decide +kernel
theorem dX0_missing_11 : decode cX0_missing 11 = .ok (.isub, 1) := by decide +kernel
theorem dX0_missing_12 : decode cX0_missing 12 = .ok (.ireturn, 1) := by decide +kernel
theorem dX1_init_0 : decode cX1_init 0 = .ok (.aload_n 0, 1) := by decide +kernel
theorem dX1_init_1 : decode cX1_init 1 = .ok (.invokespecial 3, 3) := by decide +kernel
theorem dX1_init_4 : decode cX1_init 4 = .ok (.aload_n 0, 1) := by decide +kernel
theorem dX1_init_5 : decode cX1_init 5 = .ok (.bipush 30, 2) := by decide +kernel
theorem dX1_init_7 : decode cX1_init 7 = .ok (.newarray .boolean, 2) := by decide +kernel
theorem dX1_init_9 : decode cX1_init 9 = .ok (.putfield 9, 3) := by decide +kernel
theorem dX1_init_12 : decode cX1_init 12 = .ok (.aload_n 0, 1) := by decide +kernel
theorem dX1_init_13 : decode cX1_init 13 = .ok (.iconst (-1), 1) := by decide +kernel
theorem dX1_init_14 : decode cX1_init 14 = .ok (.putfield 15, 3) := by decide +kernel
theorem dX1_init_17 : decode cX1_init 17 = .ok (.aload_n 0, 1) := by decide +kernel
theorem dX1_init_18 : decode cX1_init 18 = .ok (.iload_n 1, 1) := by decide +kernel
theorem dX1_init_19 : decode cX1_init 19 = .ok (.putfield 19, 3) := by decide +kernel
theorem dX1_init_22 : decode cX1_init 22 = .ok (.aload_n 0, 1) := by decide +kernel
theorem dX1_init_23 : decode cX1_init 23 = .ok (.aload_n 2, 1) := by decide +kernel
theorem dX1_init_24 : decode cX1_init 24 = .ok (.putfield 22, 3) := by decide +kernel
theorem dX1_init_27 : decode cX1_init 27 = .ok (.aload_n 0, 1) := by decide +kernel
theorem dX1_init_28 : decode cX1_init 28 = .ok (.iload_n 3, 1) := by decide +kernel
theorem dX1_init_29 : decode cX1_init 29 = .ok (.putfield 26, 3) := by decide +kernel
theorem dX1_init_32 : decode cX1_init 32 = .ok (.aload_n 0, 1) := by decide +kernel
theorem dX1_init_33 : decode cX1_init 33 = .ok (.iload_n 3, 1) := by decide +kernel
theorem dX1_init_34 : decode cX1_init 34 = .ok (.putfield 29, 3) := by decide +kernel
theorem dX1_init_37 : decode cX1_init 37 = .ok (.aload_n 0, 1) := by decide +kernel
theorem dX1_init_38 : decode cX1_init 38 = .ok (.iload_n 1, 1) := by decide +kernel
theorem dX1_init_39 : decode cX1_init 39 = .ok (.putfield 32, 3) := by decide +kernel
theorem dX1_init_42 : decode cX1_init 42 = .ok (.return_, 1) := by decide +kernel
theorem dX1_kindNow_0 : decode cX1_kindNow 0 = .ok (.aload_n 0, 1) := by decide +kernel
theorem dX1_kindNow_1 : decode cX1_kindNow 1 = .ok (.getfield 29, 3) := by decide +kernel
theorem dX1_kindNow_4 : decode cX1_kindNow 4 = .ok (.bipush 34, 2) := by decide +kernel
theorem dX1_kindNow_6 : decode cX1_kindNow 6 = .ok (.if_icmp .ge 6, 3) := by decide +kernel
theorem dX1_kindNow_9 : decode cX1_kindNow 9 = .ok (.bipush 101, 2) := by decide +kernel
theorem dX1_kindNow_11 : decode cX1_kindNow 11 = .ok (.ireturn, 1) := by decide +kernel
theorem dX1_kindNow_12 : decode cX1_kindNow 12 = .ok (.aload_n 0, 1) := by decide +kernel
theorem dX1_kindNow_13 : decode cX1_kindNow 13 = .ok (.getfield 29, 3) := by decide +kernel
theorem dX1_kindNow_16 : decode cX1_kindNow 16 = .ok (.bipush 67, 2) := by decide +kernel
theorem dX1_kindNow_18 : decode cX1_kindNow 18 = .ok (.if_icmp .ge 8, 3) := by decide +kernel
theorem dX1_kindNow_21 : decode cX1_kindNow 21 = .ok (.bipush 109, 2) := by decide +kernel
theorem dX1_kindNow_23 : decode cX1_kindNow 23 = .ok (.goto 5, 3) := by decide +kernel
theorem dX1_kindNow_26 : decode cX1_kindNow 26 = .ok (.bipush 104, 2) := by decide +kernel
theorem dX1_kindNow_28 : decode cX1_kindNow 28 = .ok (.ireturn, 1) := by decide +kernel
theorem dX1_rankFor_0 : decode cX1_rankFor 0 = .ok (.iconst 0, 1) := by decide +kernel
theorem dX1_rankFor_1 : decode cX1_rankFor 1 = .ok (.istore_n 2, 1) := by decide +kernel
theorem dX1_rankFor_2 : decode cX1_rankFor 2 = .ok (.iconst 0, 1) := by decide +kernel
theorem dX1_rankFor_3 : decode cX1_rankFor 3 = .ok (.istore_n 3, 1) := by decide +kernel
theorem dX1_rankFor_4 : decode cX1_rankFor 4 = .ok (.aload_n 0, 1) := by decide +kernel
theorem dX1_rankFor_5 : decode cX1_rankFor 5 = .ok (.getfield 22, 3) := by decide +kernel
theorem dX1_rankFor_8 : decode cX1_rankFor 8 = .ok (.astore 4, 2) := by decide +kernel
theorem dX1_rankFor_10 : decode cX1_rankFor 10 = .ok (.aload 4, 2) := by decide +kernel
theorem dX1_rankFor_12 : decode cX1_rankFor 12 = .ok (.arraylength, 1) := by decide +kernel
theorem dX1_rankFor_13 : decode cX1_rankFor 13 = .ok (.istore 5, 2) := by decide +kernel
theorem dX1_rankFor_15 : decode cX1_rankFor 15 = .ok (.iconst 0, 1) := by decide +kernel
theorem dX1_rankFor_16 : decode cX1_rankFor 16 = .ok (.istore 6, 2) := by decide +kernel
theorem dX1_rankFor_18 : decode cX1_rankFor 18 = .ok (.iload 6, 2) := by decide +kernel
theorem dX1_rankFor_20 : decode cX1_rankFor 20 = .ok (.iload 5, 2) := by decide +kernel
theorem dX1_rankFor_22 : decode cX1_rankFor 22 = .ok (.if_icmp .ge 50, 3) := by decide +kernel
theorem dX1_rankFor_25 : decode cX1_rankFor 25 = .ok (.aload 4, 2) := by decide +kernel
theorem dX1_rankFor_27 : decode cX1_rankFor 27 = .ok (.iload 6, 2) := by decide +kernel
theorem dX1_rankFor_29 : decode cX1_rankFor 29 = .ok (.iaload, 1) := by decide +kernel
theorem dX1_rankFor_30 : decode cX1_rankFor 30 = .ok (.istore 7, 2) := by decide +kernel
theorem dX1_rankFor_32 : decode cX1_rankFor 32 = .ok (.iconst 1, 1) := by decide +kernel
theorem dX1_rankFor_33 : decode cX1_rankFor 33 = .ok (.iload 7, 2) := by decide +kernel
theorem dX1_rankFor_35 : decode cX1_rankFor 35 = .ok (.ishl, 1) := by decide +kernel
theorem dX1_rankFor_36 : decode cX1_rankFor 36 = .ok (.istore 8, 2) := by decide +kernel
theorem dX1_rankFor_38 : decode cX1_rankFor 38 = .ok (.iload_n 1, 1) := by decide +kernel
theorem dX1_rankFor_39 : decode cX1_rankFor 39 = .ok (.iload 8, 2) := by decide +kernel
theorem dX1_rankFor_41 : decode cX1_rankFor 41 = .ok (.iand, 1) := by decide +kernel
theorem dX1_rankFor_42 : decode cX1_rankFor 42 = .ok (.ifCond .eq 24, 3) := by decide +kernel
theorem dX1_rankFor_45 : decode cX1_rankFor 45 = .ok (.iload_n 3, 1) := by decide +kernel
theorem dX1_rankFor_46 : decode cX1_rankFor 46 = .ok (.iload_n 2, 1) := by decide +kernel
theorem dX1_rankFor_47 : decode cX1_rankFor 47 = .ok (.iload 8, 2) := by decide +kernel
theorem dX1_rankFor_49 : decode cX1_rankFor 49 = .ok (.iand, 1) := by decide +kernel
theorem dX1_rankFor_50 : decode cX1_rankFor 50 = .ok (.ifCond .ne 8, 3) := by decide +kernel
theorem dX1_rankFor_53 : decode cX1_rankFor 53 = .ok (.bipush 11, 2) := by decide +kernel
theorem dX1_rankFor_55 : decode cX1_rankFor 55 = .ok (.goto 4, 3) := by decide +kernel
theorem dX1_rankFor_58 : decode cX1_rankFor 58 = .ok (.iconst 1, 1) := by decide +kernel
theorem dX1_rankFor_59 : decode cX1_rankFor 59 = .ok (.iadd, 1) := by decide +kernel
theorem dX1_rankFor_60 : decode cX1_rankFor 60 = .ok (.istore_n 3, 1) := by decide +kernel
theorem dX1_rankFor_61 : decode cX1_rankFor 61 = .ok (.iload_n 2, 1) := by decide +kernel
theorem dX1_rankFor_62 : decode cX1_rankFor 62 = .ok (.iload 8, 2) := by decide +kernel
theorem dX1_rankFor_64 : decode cX1_rankFor 64 = .ok (.ior, 1) := by decide +kernel
theorem dX1_rankFor_65 : decode cX1_rankFor 65 = .ok (.istore_n 2, 1) := by decide +kernel
theorem dX1_rankFor_66 : decode cX1_rankFor 66 = .ok (.iinc 6 1, 3) := by decide +kernel
theorem dX1_rankFor_69 : decode cX1_rankFor 69 = .ok (.goto (-51), 3) := by decide +kernel
theorem dX1_rankFor_72 : decode cX1_rankFor 72 = .ok (.iload_n 3, 1) := by decide +kernel
theorem dX1_rankFor_73 : decode cX1_rankFor 73 = .ok (.ireturn, 1) := by decide +kernel
theorem dX1_takeAnswer_0 : decode cX1_takeAnswer 0 = .ok (.aload_n 0, 1) := by decide +kernel
theorem dX1_takeAnswer_1 : decode cX1_takeAnswer 1 = .ok (.getfield 35, 3) := by decide +kernel
theorem dX1_takeAnswer_4 : decode cX1_takeAnswer 4 = .ok (.aload_n 0, 1) := by decide +kernel
theorem dX1_takeAnswer_5 : decode cX1_takeAnswer 5 = .ok (.getfield 9, 3) := by decide +kernel
theorem dX1_takeAnswer_8 : decode cX1_takeAnswer 8 = .ok (.arraylength, 1) := by decide +kernel
theorem dX1_takeAnswer_9 : decode cX1_takeAnswer 9 = .ok (.if_icmp .ge 35, 3) := by decide +kernel
theorem dX1_takeAnswer_12 : decode cX1_takeAnswer 12 = .ok (.aload_n 0, 1) := by decide +kernel
theorem dX1_takeAnswer_13 : decode cX1_takeAnswer 13 = .ok (.getfield 9, 3) := by decide +kernel
theorem dX1_takeAnswer_16 : decode cX1_takeAnswer 16 = .ok (.aload_n 0, 1) := by decide +kernel
theorem dX1_takeAnswer_17 : decode cX1_takeAnswer 17 = .ok (.getfield 35, 3) := by decide +kernel
theorem dX1_takeAnswer_20 : decode cX1_takeAnswer 20 = .ok (.iload_n 1, 1) := by decide +kernel
theorem dX1_takeAnswer_21 : decode cX1_takeAnswer 21 = .ok (.bastore, 1) := by decide +kernel
theorem dX1_takeAnswer_22 : decode cX1_takeAnswer 22 = .ok (.aload_n 0, 1) := by decide +kernel
theorem dX1_takeAnswer_23 : decode cX1_takeAnswer 23 = .ok (.dup, 1) := by decide +kernel
theorem dX1_takeAnswer_24 : decode cX1_takeAnswer 24 = .ok (.getfield 35, 3) := by decide +kernel
theorem dX1_takeAnswer_27 : decode cX1_takeAnswer 27 = .ok (.iconst 1, 1) := by decide +kernel
theorem dX1_takeAnswer_28 : decode cX1_takeAnswer 28 = .ok (.iadd, 1) := by decide +kernel
theorem dX1_takeAnswer_29 : decode cX1_takeAnswer 29 = .ok (.putfield 35, 3) := by decide +kernel
theorem dX1_takeAnswer_32 : decode cX1_takeAnswer 32 = .ok (.aload_n 0, 1) := by decide +kernel
theorem dX1_takeAnswer_33 : decode cX1_takeAnswer 33 = .ok (.aload_n 0, 1) := by decide +kernel
theorem dX1_takeAnswer_34 : decode cX1_takeAnswer 34 = .ok (.getfield 29, 3) := by decide +kernel
theorem dX1_takeAnswer_37 : decode cX1_takeAnswer 37 = .ok (.iload_n 1, 1) := by decide +kernel
theorem dX1_takeAnswer_38 : decode cX1_takeAnswer 38 = .ok (.invokestatic 38, 3) := by decide +kernel
theorem dX1_takeAnswer_41 : decode cX1_takeAnswer 41 = .ok (.putfield 29, 3) := by decide +kernel
theorem dX1_takeAnswer_44 : decode cX1_takeAnswer 44 = .ok (.return_, 1) := by decide +kernel
theorem dX1_levelByAnswers_0 : decode cX1_levelByAnswers 0 = .ok (.aload_n 0, 1) := by decide +kernel
theorem dX1_levelByAnswers_1 : decode cX1_levelByAnswers 1 = .ok (.getfield 26, 3) := by decide +kernel
theorem dX1_levelByAnswers_4 : decode cX1_levelByAnswers 4 = .ok (.istore_n 1, 1) := by decide +kernel
theorem dX1_levelByAnswers_5 : decode cX1_levelByAnswers 5 = .ok (.iconst 0, 1) := by decide +kernel
theorem dX1_levelByAnswers_6 : decode cX1_levelByAnswers 6 = .ok (.istore_n 2, 1) := by decide +kernel
theorem dX1_levelByAnswers_7 : decode cX1_levelByAnswers 7 = .ok (.iload_n 2, 1) := by decide +kernel
theorem dX1_levelByAnswers_8 : decode cX1_levelByAnswers 8 = .ok (.aload_n 0, 1) := by decide +kernel
theorem dX1_levelByAnswers_9 : decode cX1_levelByAnswers 9 = .ok (.getfield 35, 3) := by decide +kernel
theorem dX1_levelByAnswers_12 : decode cX1_levelByAnswers 12 = .ok (.if_icmp .ge 29, 3) := by decide +kernel
theorem dX1_levelByAnswers_15 : decode cX1_levelByAnswers 15 = .ok (.iload_n 2, 1) := by decide +kernel
theorem dX1_levelByAnswers_16 : decode cX1_levelByAnswers 16 = .ok (.aload_n 0, 1) := by decide +kernel
theorem dX1_levelByAnswers_17 : decode cX1_levelByAnswers 17 = .ok (.getfield 9, 3) := by decide +kernel
theorem dX1_levelByAnswers_20 : decode cX1_levelByAnswers 20 = .ok (.arraylength, 1) := by decide +kernel
theorem dX1_levelByAnswers_21 : decode cX1_levelByAnswers 21 = .ok (.if_icmp .ge 20, 3) := by decide +kernel
theorem dX1_levelByAnswers_24 : decode cX1_levelByAnswers 24 = .ok (.iload_n 1, 1) := by decide +kernel
theorem dX1_levelByAnswers_25 : decode cX1_levelByAnswers 25 = .ok (.aload_n 0, 1) := by decide +kernel
theorem dX1_levelByAnswers_26 : decode cX1_levelByAnswers 26 = .ok (.getfield 9, 3) := by decide +kernel
theorem dX1_levelByAnswers_29 : decode cX1_levelByAnswers 29 = .ok (.iload_n 2, 1) := by decide +kernel
theorem dX1_levelByAnswers_30 : decode cX1_levelByAnswers 30 = .ok (.baload, 1) := by decide +kernel
theorem dX1_levelByAnswers_31 : decode cX1_levelByAnswers 31 = .ok (.invokestatic 38, 3) := by decide +kernel
theorem dX1_levelByAnswers_34 : decode cX1_levelByAnswers 34 = .ok (.istore_n 1, 1) := by decide +kernel
theorem dX1_levelByAnswers_35 : decode cX1_levelByAnswers 35 = .ok (.iinc 2 1, 3) := by decide +kernel
theorem dX1_levelByAnswers_38 : decode cX1_levelByAnswers 38 = .ok (.goto (-31), 3) := by decide +kernel
theorem dX1_levelByAnswers_41 : decode cX1_levelByAnswers 41 = .ok (.iload_n 1, 1) := by decide +kernel
theorem dX1_levelByAnswers_42 : decode cX1_levelByAnswers 42 = .ok (.ireturn, 1) := by decide +kernel
theorem dX1_shifted_0 : decode cX1_shifted 0 = .ok (.iload_n 1, 1) := by decide +kernel
theorem dX1_shifted_1 : decode cX1_shifted 1 = .ok (.ifCond .eq 16, 3) := by decide +kernel
theorem dX1_shifted_4 : decode cX1_shifted 4 = .ok (.iconst 0, 1) := by decide +kernel
theorem dX1_shifted_5 : decode cX1_shifted 5 = .ok (.iload_n 0, 1) := by decide +kernel
theorem dX1_shifted_6 : decode cX1_shifted 6 = .ok (.iconst 1, 1) := by decide +kernel
theorem dX1_shifted_7 : decode cX1_shifted 7 = .ok (.isub, 1) := by decide +kernel
theorem dX1_shifted_8 : decode cX1_shifted 8 = .ok (.iload_n 0, 1) := by decide +kernel
theorem dX1_shifted_9 : decode cX1_shifted 9 = .ok (.bipush 10, 2) := by decide +kernel
theorem dX1_shifted_11 : decode cX1_shifted 11 = .ok (.idiv, 1) := by decide +kernel
theorem dX1_shifted_12 : decode cX1_shifted 12 = .ok (.isub, 1) := by decide +kernel
theorem dX1_shifted_13 : decode cX1_shifted 13 = .ok (.invokestatic 42, 3) := by decide +kernel
theorem dX1_shifted_16 : decode cX1_shifted 16 = .ok (.ireturn, 1) := by decide +kernel
theorem dX1_shifted_17 : decode cX1_shifted 17 = .ok (.bipush 100, 2) := by decide +kernel
theorem dX1_shifted_19 : decode cX1_shifted 19 = .ok (.iload_n 0, 1) := by decide +kernel
theorem dX1_shifted_20 : decode cX1_shifted 20 = .ok (.iconst 1, 1) := by decide +kernel
theorem dX1_shifted_21 : decode cX1_shifted 21 = .ok (.iadd, 1) := by decide +kernel
theorem dX1_shifted_22 : decode cX1_shifted 22 = .ok (.bipush 100, 2) := by decide +kernel
theorem dX1_shifted_24 : decode cX1_shifted 24 = .ok (.iload_n 0, 1) := by decide +kernel
theorem dX1_shifted_25 : decode cX1_shifted 25 = .ok (.isub, 1) := by decide +kernel
theorem dX1_shifted_26 : decode cX1_shifted 26 = .ok (.bipush 10, 2) := by decide +kernel
theorem dX1_shifted_28 : decode cX1_shifted 28 = .ok (.idiv, 1) := by decide +kernel
theorem dX1_shifted_29 : decode cX1_shifted 29 = .ok (.iadd, 1) := by decide +kernel
theorem dX1_shifted_30 : decode cX1_shifted 30 = .ok (.invokestatic 48, 3) := by decide +kernel
theorem dX1_shifted_33 : decode cX1_shifted 33 = .ok (.ireturn, 1) := by decide +kernel
theorem dX2_init_0 : decode cX2_init 0 = .ok (.aload_n 0, 1) := by decide +kernel
theorem dX2_init_1 : decode cX2_init 1 = .ok (.invokespecial 3, 3) := by decide +kernel
theorem dX2_init_4 : decode cX2_init 4 = .ok (.aload_n 0, 1) := by decide +kernel
theorem dX2_init_5 : decode cX2_init 5 = .ok (.new 9, 3) := by decide +kernel
theorem dX2_init_8 : decode cX2_init 8 = .ok (.dup, 1) := by decide +kernel
theorem dX2_init_9 : decode cX2_init 9 = .ok (.invokespecial 11, 3) := by decide +kernel
theorem dX2_init_12 : decode cX2_init 12 = .ok (.putfield 12, 3) := by decide +kernel
theorem dX2_init_15 : decode cX2_init 15 = .ok (.aload_n 0, 1) := by decide +kernel
theorem dX2_init_16 : decode cX2_init 16 = .ok (.bipush 115, 2) := by decide +kernel
theorem dX2_init_18 : decode cX2_init 18 = .ok (.putfield 18, 3) := by decide +kernel
theorem dX2_init_21 : decode cX2_init 21 = .ok (.iconst 0, 1) := by decide +kernel
theorem dX2_init_22 : decode cX2_init 22 = .ok (.istore_n 2, 1) := by decide +kernel
theorem dX2_init_23 : decode cX2_init 23 = .ok (.iload_n 2, 1) := by decide +kernel
theorem dX2_init_24 : decode cX2_init 24 = .ok (.aload_n 1, 1) := by decide +kernel
theorem dX2_init_25 : decode cX2_init 25 = .ok (.invokevirtual 22, 3) := by decide +kernel
theorem dX2_init_28 : decode cX2_init 28 = .ok (.if_icmp .ge 25, 3) := by decide +kernel
theorem dX2_init_31 : decode cX2_init 31 = .ok (.aload_n 0, 1) := by decide +kernel
theorem dX2_init_32 : decode cX2_init 32 = .ok (.getfield 12, 3) := by decide +kernel
theorem dX2_init_35 : decode cX2_init 35 = .ok (.aload_n 1, 1) := by decide +kernel
theorem dX2_init_36 : decode cX2_init 36 = .ok (.iload_n 2, 1) := by decide +kernel
theorem dX2_init_37 : decode cX2_init 37 = .ok (.invokevirtual 26, 3) := by decide +kernel
theorem dX2_init_40 : decode cX2_init 40 = .ok (.checkcast 30, 3) := by decide +kernel
theorem dX2_init_43 : decode cX2_init 43 = .ok (.invokevirtual 32, 3) := by decide +kernel
theorem dX2_init_46 : decode cX2_init 46 = .ok (.pop, 1) := by decide +kernel
theorem dX2_init_47 : decode cX2_init 47 = .ok (.iinc 2 1, 3) := by decide +kernel
theorem dX2_init_50 : decode cX2_init 50 = .ok (.goto (-27), 3) := by decide +kernel
theorem dX2_init_53 : decode cX2_init 53 = .ok (.aload_n 0, 1) := by decide +kernel
theorem dX2_init_54 : decode cX2_init 54 = .ok (.aload_n 0, 1) := by decide +kernel
theorem dX2_init_55 : decode cX2_init 55 = .ok (.getfield 12, 3) := by decide +kernel
theorem dX2_init_58 : decode cX2_init 58 = .ok (.invokevirtual 22, 3) := by decide +kernel
theorem dX2_init_61 : decode cX2_init 61 = .ok (.newarray .boolean, 2) := by decide +kernel
theorem dX2_init_63 : decode cX2_init 63 = .ok (.putfield 36, 3) := by decide +kernel
theorem dX2_init_66 : decode cX2_init 66 = .ok (.return_, 1) := by decide +kernel
theorem dX2_markAnswered_0 : decode cX2_markAnswered 0 = .ok (.iload_n 1, 1) := by decide +kernel
theorem dX2_markAnswered_1 : decode cX2_markAnswered 1 = .ok (.ifCond .lt 21, 3) := by decide +kernel
theorem dX2_markAnswered_4 : decode cX2_markAnswered 4 = .ok (.iload_n 1, 1) := by decide +kernel
theorem dX2_markAnswered_5 : decode cX2_markAnswered 5 = .ok (.aload_n 0, 1) := by decide +kernel
theorem dX2_markAnswered_6 : decode cX2_markAnswered 6 = .ok (.getfield 36, 3) := by decide +kernel
theorem dX2_markAnswered_9 : decode cX2_markAnswered 9 = .ok (.arraylength, 1) := by decide +kernel
theorem dX2_markAnswered_10 : decode cX2_markAnswered 10 = .ok (.if_icmp .ge 12, 3) := by decide +kernel
theorem dX2_markAnswered_13 : decode cX2_markAnswered 13 = .ok (.aload_n 0, 1) := by decide +kernel
theorem dX2_markAnswered_14 : decode cX2_markAnswered 14 = .ok (.getfield 36, 3) := by decide +kernel
theorem dX2_markAnswered_17 : decode cX2_markAnswered 17 = .ok (.iload_n 1, 1) := by decide +kernel
theorem dX2_markAnswered_18 : decode cX2_markAnswered 18 = .ok (.baload, 1) := by decide +kernel
theorem dX2_markAnswered_19 : decode cX2_markAnswered 19 = .ok (.ifCond .eq 5, 3) := by decide +kernel
theorem dX2_markAnswered_22 : decode cX2_markAnswered 22 = .ok (.iconst 0, 1) := by decide +kernel
theorem dX2_markAnswered_23 : decode cX2_markAnswered 23 = .ok (.ireturn, 1) := by decide +kernel
theorem dX2_markAnswered_24 : decode cX2_markAnswered 24 = .ok (.aload_n 0, 1) := by decide +kernel
theorem dX2_markAnswered_25 : decode cX2_markAnswered 25 = .ok (.getfield 36, 3) := by decide +kernel
theorem dX2_markAnswered_28 : decode cX2_markAnswered 28 = .ok (.iload_n 1, 1) := by decide +kernel
theorem dX2_markAnswered_29 : decode cX2_markAnswered 29 = .ok (.iconst 1, 1) := by decide +kernel
theorem dX2_markAnswered_30 : decode cX2_markAnswered 30 = .ok (.bastore, 1) := by decide +kernel
theorem dX2_markAnswered_31 : decode cX2_markAnswered 31 = .ok (.iconst 1, 1) := by decide +kernel
theorem dX2_markAnswered_32 : decode cX2_markAnswered 32 = .ok (.ireturn, 1) := by decide +kernel
theorem dX3_init_0 : decode cX3_init 0 = .ok (.aload_n 0, 1) := by decide +kernel
theorem dX3_init_1 : decode cX3_init 1 = .ok (.invokespecial 1, 3) := by decide +kernel
theorem dX3_init_4 : decode cX3_init 4 = .ok (.aload_n 0, 1) := by decide +kernel
theorem dX3_init_5 : decode cX3_init 5 = .ok (.bipush 6, 2) := by decide +kernel
theorem dX3_init_7 : decode cX3_init 7 = .ok (.newarray .int, 2) := by decide +kernel
theorem dX3_init_9 : decode cX3_init 9 = .ok (.putfield 9, 3) := by decide +kernel
theorem dX3_init_12 : decode cX3_init 12 = .ok (.aload_n 0, 1) := by decide +kernel
theorem dX3_init_13 : decode cX3_init 13 = .ok (.new 13, 3) := by decide +kernel
theorem dX3_init_16 : decode cX3_init 16 = .ok (.dup, 1) := by decide +kernel
theorem dX3_init_17 : decode cX3_init 17 = .ok (.invokespecial 15, 3) := by decide +kernel
theorem dX3_init_20 : decode cX3_init 20 = .ok (.putfield 16, 3) := by decide +kernel
theorem dX3_init_23 : decode cX3_init 23 = .ok (.aload_n 0, 1) := by decide +kernel
theorem dX3_init_24 : decode cX3_init 24 = .ok (.new 13, 3) := by decide +kernel
theorem dX3_init_27 : decode cX3_init 27 = .ok (.dup, 1) := by decide +kernel
theorem dX3_init_28 : decode cX3_init 28 = .ok (.invokespecial 15, 3) := by decide +kernel
theorem dX3_init_31 : decode cX3_init 31 = .ok (.putfield 20, 3) := by decide +kernel
theorem dX3_init_34 : decode cX3_init 34 = .ok (.aload_n 0, 1) := by decide +kernel
theorem dX3_init_35 : decode cX3_init 35 = .ok (.new 13, 3) := by decide +kernel
theorem dX3_init_38 : decode cX3_init 38 = .ok (.dup, 1) := by decide +kernel
theorem dX3_init_39 : decode cX3_init 39 = .ok (.invokespecial 15, 3) := by decide +kernel
theorem dX3_init_42 : decode cX3_init 42 = .ok (.putfield 23, 3) := by decide +kernel
theorem dX3_init_45 : decode cX3_init 45 = .ok (.aload_n 0, 1) := by decide +kernel
theorem dX3_init_46 : decode cX3_init 46 = .ok (.new 13, 3) := by decide +kernel
theorem dX3_init_49 : decode cX3_init 49 = .ok (.dup, 1) := by decide +kernel
theorem dX3_init_50 : decode cX3_init 50 = .ok (.invokespecial 15, 3) := by decide +kernel
theorem dX3_init_53 : decode cX3_init 53 = .ok (.putfield 26, 3) := by decide +kernel
theorem dX3_init_56 : decode cX3_init 56 = .ok (.aload_n 0, 1) := by decide +kernel
theorem dX3_init_57 : decode cX3_init 57 = .ok (.new 13, 3) := by decide +kernel
theorem dX3_init_60 : decode cX3_init 60 = .ok (.dup, 1) := by decide +kernel
theorem dX3_init_61 : decode cX3_init 61 = .ok (.invokespecial 15, 3) := by decide +kernel
theorem dX3_init_64 : decode cX3_init 64 = .ok (.putfield 29, 3) := by decide +kernel
theorem dX3_init_67 : decode cX3_init 67 = .ok (.aload_n 0, 1) := by decide +kernel
theorem dX3_init_68 : decode cX3_init 68 = .ok (.new 13, 3) := by decide +kernel
theorem dX3_init_71 : decode cX3_init 71 = .ok (.dup, 1) := by decide +kernel
theorem dX3_init_72 : decode cX3_init 72 = .ok (.invokespecial 15, 3) := by decide +kernel
theorem dX3_init_75 : decode cX3_init 75 = .ok (.putfield 32, 3) := by decide +kernel
theorem dX3_init_78 : decode cX3_init 78 = .ok (.aload_n 0, 1) := by decide +kernel
theorem dX3_init_79 : decode cX3_init 79 = .ok (.new 35, 3) := by decide +kernel
theorem dX3_init_82 : decode cX3_init 82 = .ok (.dup, 1) := by decide +kernel
theorem dX3_init_83 : decode cX3_init 83 = .ok (.invokespecial 37, 3) := by decide +kernel
theorem dX3_init_86 : decode cX3_init 86 = .ok (.putfield 38, 3) := by decide +kernel
theorem dX3_init_89 : decode cX3_init 89 = .ok (.return_, 1) := by decide +kernel
theorem dX3_type_0 : decode cX3_type 0 = .ok (.iload_n 1, 1) := by decide +kernel
theorem dX3_type_1 : decode cX3_type 1 = .ok (.iconst 0, 1) := by decide +kernel
theorem dX3_type_2 : decode cX3_type 2 = .ok (.bipush 29, 2) := by decide +kernel
theorem dX3_type_4 : decode cX3_type 4 = .ok (.invokestatic 42, 3) := by decide +kernel
theorem dX3_type_7 : decode cX3_type 7 = .ok (.ifCond .eq 13, 3) := by decide +kernel
theorem dX3_type_10 : decode cX3_type 10 = .ok (.new 46, 3) := by decide +kernel
theorem dX3_type_13 : decode cX3_type 13 = .ok (.dup, 1) := by decide +kernel
theorem dX3_type_14 : decode cX3_type 14 = .ok (.ldc 48, 2) := by decide +kernel
theorem dX3_type_16 : decode cX3_type 16 = .ok (.invokespecial 50, 3) := by decide +kernel
theorem dX3_type_19 : decode cX3_type 19 = .ok (.athrow, 1) := by decide +kernel
theorem dX3_type_20 : decode cX3_type 20 = .ok (.aload_n 0, 1) := by decide +kernel
theorem dX3_type_21 : decode cX3_type 21 = .ok (.getfield 53, 3) := by decide +kernel
theorem dX3_type_24 : decode cX3_type 24 = .ok (.bipush 6, 2) := by decide +kernel
theorem dX3_type_26 : decode cX3_type 26 = .ok (.if_icmp .lt 13, 3) := by decide +kernel
theorem dX3_type_29 : decode cX3_type 29 = .ok (.new 57, 3) := by decide +kernel
theorem dX3_type_32 : decode cX3_type 32 = .ok (.dup, 1) := by decide +kernel
theorem dX3_type_33 : decode cX3_type 33 = .ok (.ldc 59, 2) := by decide +kernel
theorem dX3_type_35 : decode cX3_type 35 = .ok (.invokespecial 61, 3) := by decide +kernel
theorem dX3_type_38 : decode cX3_type 38 = .ok (.athrow, 1) := by decide +kernel
theorem dX3_type_39 : decode cX3_type 39 = .ok (.aload_n 0, 1) := by decide +kernel
theorem dX3_type_40 : decode cX3_type 40 = .ok (.getfield 9, 3) := by decide +kernel
theorem dX3_type_43 : decode cX3_type 43 = .ok (.aload_n 0, 1) := by decide +kernel
theorem dX3_type_44 : decode cX3_type 44 = .ok (.getfield 53, 3) := by decide +kernel
theorem dX3_type_47 : decode cX3_type 47 = .ok (.iload_n 1, 1) := by decide +kernel
theorem dX3_type_48 : decode cX3_type 48 = .ok (.iastore, 1) := by decide +kernel
theorem dX3_type_49 : decode cX3_type 49 = .ok (.aload_n 0, 1) := by decide +kernel
theorem dX3_type_50 : decode cX3_type 50 = .ok (.dup, 1) := by decide +kernel
theorem dX3_type_51 : decode cX3_type 51 = .ok (.getfield 53, 3) := by decide +kernel
theorem dX3_type_54 : decode cX3_type 54 = .ok (.iconst 1, 1) := by decide +kernel
theorem dX3_type_55 : decode cX3_type 55 = .ok (.iadd, 1) := by decide +kernel
theorem dX3_type_56 : decode cX3_type 56 = .ok (.putfield 53, 3) := by decide +kernel
theorem dX3_type_59 : decode cX3_type 59 = .ok (.aload_n 0, 1) := by decide +kernel
theorem dX3_type_60 : decode cX3_type 60 = .ok (.getfield 53, 3) := by decide +kernel
theorem dX3_type_63 : decode cX3_type 63 = .ok (.ireturn, 1) := by decide +kernel
theorem dX3_erase_0 : decode cX3_erase 0 = .ok (.aload_n 0, 1) := by decide +kernel
theorem dX3_erase_1 : decode cX3_erase 1 = .ok (.getfield 53, 3) := by decide +kernel
theorem dX3_erase_4 : decode cX3_erase 4 = .ok (.istore_n 1, 1) := by decide +kernel
theorem dX3_erase_5 : decode cX3_erase 5 = .ok (.aload_n 0, 1) := by decide +kernel
theorem dX3_erase_6 : decode cX3_erase 6 = .ok (.iconst 0, 1) := by decide +kernel
theorem dX3_erase_7 : decode cX3_erase 7 = .ok (.putfield 53, 3) := by decide +kernel
theorem dX3_erase_10 : decode cX3_erase 10 = .ok (.iload_n 1, 1) := by decide +kernel
theorem dX3_erase_11 : decode cX3_erase 11 = .ok (.ireturn, 1) := by decide +kernel
theorem dX3_add_0 : decode cX3_add 0 = .ok (.iload_n 1, 1) := by decide +kernel
theorem dX3_add_1 : decode cX3_add 1 = .ok (.iconst 0, 1) := by decide +kernel
theorem dX3_add_2 : decode cX3_add 2 = .ok (.bipush 100, 2) := by decide +kernel
theorem dX3_add_4 : decode cX3_add 4 = .ok (.invokestatic 42, 3) := by decide +kernel
theorem dX3_add_7 : decode cX3_add 7 = .ok (.ifCond .eq 13, 3) := by decide +kernel
theorem dX3_add_10 : decode cX3_add 10 = .ok (.new 46, 3) := by decide +kernel
theorem dX3_add_13 : decode cX3_add 13 = .ok (.dup, 1) := by decide +kernel
theorem dX3_add_14 : decode cX3_add 14 = .ok (.ldc 62, 2) := by decide +kernel
theorem dX3_add_16 : decode cX3_add 16 = .ok (.invokespecial 50, 3) := by decide +kernel
theorem dX3_add_19 : decode cX3_add 19 = .ok (.athrow, 1) := by decide +kernel
theorem dX3_add_20 : decode cX3_add 20 = .ok (.aload_n 0, 1) := by decide +kernel
theorem dX3_add_21 : decode cX3_add 21 = .ok (.getfield 53, 3) := by decide +kernel
theorem dX3_add_24 : decode cX3_add 24 = .ok (.ifCond .ne 13, 3) := by decide +kernel
theorem dX3_add_27 : decode cX3_add 27 = .ok (.new 64, 3) := by decide +kernel
theorem dX3_add_30 : decode cX3_add 30 = .ok (.dup, 1) := by decide +kernel
theorem dX3_add_31 : decode cX3_add 31 = .ok (.ldc 66, 2) := by decide +kernel
theorem dX3_add_33 : decode cX3_add 33 = .ok (.invokespecial 68, 3) := by decide +kernel
theorem dX3_add_36 : decode cX3_add 36 = .ok (.athrow, 1) := by decide +kernel
theorem dX3_add_37 : decode cX3_add 37 = .ok (.aload_n 0, 1) := by decide +kernel
theorem dX3_add_38 : decode cX3_add 38 = .ok (.getfield 16, 3) := by decide +kernel
theorem dX3_add_41 : decode cX3_add 41 = .ok (.invokevirtual 69, 3) := by decide +kernel
theorem dX3_add_44 : decode cX3_add 44 = .ok (.bipush 40, 2) := by decide +kernel
theorem dX3_add_46 : decode cX3_add 46 = .ok (.if_icmp .lt 13, 3) := by decide +kernel
theorem dX3_add_49 : decode cX3_add 49 = .ok (.new 57, 3) := by decide +kernel
theorem dX3_add_52 : decode cX3_add 52 = .ok (.dup, 1) := by decide +kernel
theorem dX3_add_53 : decode cX3_add 53 = .ok (.ldc 73, 2) := by decide +kernel
theorem dX3_add_55 : decode cX3_add 55 = .ok (.invokespecial 61, 3) := by decide +kernel
theorem dX3_add_58 : decode cX3_add 58 = .ok (.athrow, 1) := by decide +kernel
theorem dX3_add_59 : decode cX3_add 59 = .ok (.aload_n 0, 1) := by decide +kernel
theorem dX3_add_60 : decode cX3_add 60 = .ok (.getfield 16, 3) := by decide +kernel
theorem dX3_add_63 : decode cX3_add 63 = .ok (.invokevirtual 69, 3) := by decide +kernel
theorem dX3_add_66 : decode cX3_add 66 = .ok (.istore_n 2, 1) := by decide +kernel
theorem dX3_add_67 : decode cX3_add 67 = .ok (.aload_n 0, 1) := by decide +kernel
theorem dX3_add_68 : decode cX3_add 68 = .ok (.getfield 16, 3) := by decide +kernel
theorem dX3_add_71 : decode cX3_add 71 = .ok (.new 75, 3) := by decide +kernel
theorem dX3_add_74 : decode cX3_add 74 = .ok (.dup, 1) := by decide +kernel
theorem dX3_add_75 : decode cX3_add 75 = .ok (.iload_n 2, 1) := by decide +kernel
theorem dX3_add_76 : decode cX3_add 76 = .ok (.aload_n 0, 1) := by decide +kernel
theorem dX3_add_77 : decode cX3_add 77 = .ok (.getfield 9, 3) := by decide +kernel
theorem dX3_add_80 : decode cX3_add 80 = .ok (.aload_n 0, 1) := by decide +kernel
theorem dX3_add_81 : decode cX3_add 81 = .ok (.getfield 53, 3) := by decide +kernel
theorem dX3_add_84 : decode cX3_add 84 = .ok (.invokestatic 77, 3) := by decide +kernel
theorem dX3_add_87 : decode cX3_add 87 = .ok (.iload_n 1, 1) := by decide +kernel
theorem dX3_add_88 : decode cX3_add 88 = .ok (.invokespecial 83, 3) := by decide +kernel
theorem dX3_add_91 : decode cX3_add 91 = .ok (.invokevirtual 86, 3) := by decide +kernel
theorem dX3_add_94 : decode cX3_add 94 = .ok (.pop, 1) := by decide +kernel
theorem dX3_add_95 : decode cX3_add 95 = .ok (.aload_n 0, 1) := by decide +kernel
theorem dX3_add_96 : decode cX3_add 96 = .ok (.iconst 0, 1) := by decide +kernel
theorem dX3_add_97 : decode cX3_add 97 = .ok (.putfield 53, 3) := by decide +kernel
theorem dX3_add_100 : decode cX3_add 100 = .ok (.aload_n 0, 1) := by decide +kernel
theorem dX3_add_101 : decode cX3_add 101 = .ok (.invokevirtual 90, 3) := by decide +kernel
theorem dX3_add_104 : decode cX3_add 104 = .ok (.iload_n 2, 1) := by decide +kernel
theorem dX3_add_105 : decode cX3_add 105 = .ok (.ireturn, 1) := by decide +kernel
theorem dX3_twin_0 : decode cX3_twin 0 = .ok (.aload_n 0, 1) := by decide +kernel
theorem dX3_twin_1 : decode cX3_twin 1 = .ok (.iload_n 1, 1) := by decide +kernel
theorem dX3_twin_2 : decode cX3_twin 2 = .ok (.invokevirtual 93, 3) := by decide +kernel
theorem dX3_twin_5 : decode cX3_twin 5 = .ok (.astore_n 3, 1) := by decide +kernel
theorem dX3_twin_6 : decode cX3_twin 6 = .ok (.aload_n 0, 1) := by decide +kernel
theorem dX3_twin_7 : decode cX3_twin 7 = .ok (.iload_n 2, 1) := by decide +kernel
theorem dX3_twin_8 : decode cX3_twin 8 = .ok (.invokevirtual 93, 3) := by decide +kernel
theorem dX3_twin_11 : decode cX3_twin 11 = .ok (.astore 4, 2) := by decide +kernel
theorem dX3_twin_13 : decode cX3_twin 13 = .ok (.aload_n 3, 1) := by decide +kernel
theorem dX3_twin_14 : decode cX3_twin 14 = .ok (.aload 4, 2) := by decide +kernel
theorem dX3_twin_16 : decode cX3_twin 16 = .ok (.if_acmp .ne 13, 3) := by decide +kernel
theorem dX3_twin_19 : decode cX3_twin 19 = .ok (.new 46, 3) := by decide +kernel
theorem dX3_twin_22 : decode cX3_twin 22 = .ok (.dup, 1) := by decide +kernel
theorem dX3_twin_23 : decode cX3_twin 23 = .ok (.ldc 97, 2) := by decide +kernel
theorem dX3_twin_25 : decode cX3_twin 25 = .ok (.invokespecial 50, 3) := by decide +kernel
theorem dX3_twin_28 : decode cX3_twin 28 = .ok (.athrow, 1) := by decide +kernel
theorem dX3_twin_29 : decode cX3_twin 29 = .ok (.aload_n 0, 1) := by decide +kernel
theorem dX3_twin_30 : decode cX3_twin 30 = .ok (.aload_n 3, 1) := by decide +kernel
theorem dX3_twin_31 : decode cX3_twin 31 = .ok (.getfield 99, 3) := by decide +kernel
theorem dX3_twin_34 : decode cX3_twin 34 = .ok (.aload 4, 2) := by decide +kernel
theorem dX3_twin_36 : decode cX3_twin 36 = .ok (.getfield 99, 3) := by decide +kernel
theorem dX3_twin_39 : decode cX3_twin 39 = .ok (.invokevirtual 102, 3) := by decide +kernel
theorem dX3_twin_42 : decode cX3_twin 42 = .ok (.aload_n 0, 1) := by decide +kernel
theorem dX3_twin_43 : decode cX3_twin 43 = .ok (.invokevirtual 90, 3) := by decide +kernel
theorem dX3_twin_46 : decode cX3_twin 46 = .ok (.aload_n 0, 1) := by decide +kernel
theorem dX3_twin_47 : decode cX3_twin 47 = .ok (.aload_n 3, 1) := by decide +kernel
theorem dX3_twin_48 : decode cX3_twin 48 = .ok (.invokevirtual 106, 3) := by decide +kernel
theorem dX3_twin_51 : decode cX3_twin 51 = .ok (.ireturn, 1) := by decide +kernel
theorem dX3_areTwins_0 : decode cX3_areTwins 0 = .ok (.aload_n 0, 1) := by decide +kernel
theorem dX3_areTwins_1 : decode cX3_areTwins 1 = .ok (.iload_n 1, 1) := by decide +kernel
theorem dX3_areTwins_2 : decode cX3_areTwins 2 = .ok (.invokevirtual 93, 3) := by decide +kernel
theorem dX3_areTwins_5 : decode cX3_areTwins 5 = .ok (.astore_n 3, 1) := by decide +kernel
theorem dX3_areTwins_6 : decode cX3_areTwins 6 = .ok (.aload_n 0, 1) := by decide +kernel
theorem dX3_areTwins_7 : decode cX3_areTwins 7 = .ok (.iload_n 2, 1) := by decide +kernel
theorem dX3_areTwins_8 : decode cX3_areTwins 8 = .ok (.invokevirtual 93, 3) := by decide +kernel
theorem dX3_areTwins_11 : decode cX3_areTwins 11 = .ok (.astore 4, 2) := by decide +kernel
theorem dX3_areTwins_13 : decode cX3_areTwins 13 = .ok (.aload_n 3, 1) := by decide +kernel
theorem dX3_areTwins_14 : decode cX3_areTwins 14 = .ok (.aload 4, 2) := by decide +kernel
theorem dX3_areTwins_16 : decode cX3_areTwins 16 = .ok (.if_acmp .eq 19, 3) := by decide +kernel
theorem dX3_areTwins_19 : decode cX3_areTwins 19 = .ok (.aload_n 3, 1) := by decide +kernel
theorem dX3_areTwins_20 : decode cX3_areTwins 20 = .ok (.getfield 99, 3) := by decide +kernel
theorem dX3_areTwins_23 : decode cX3_areTwins 23 = .ok (.aload 4, 2) := by decide +kernel
theorem dX3_areTwins_25 : decode cX3_areTwins 25 = .ok (.getfield 99, 3) := by decide +kernel
theorem dX3_areTwins_28 : decode cX3_areTwins 28 = .ok (.if_icmp .ne 7, 3) := by decide +kernel
theorem dX3_areTwins_31 : decode cX3_areTwins 31 = .ok (.iconst 1, 1) := by decide +kernel
theorem dX3_areTwins_32 : decode cX3_areTwins 32 = .ok (.goto 4, 3) := by decide +kernel
theorem dX3_areTwins_35 : decode cX3_areTwins 35 = .ok (.iconst 0, 1) := by decide +kernel
theorem dX3_areTwins_36 : decode cX3_areTwins 36 = .ok (.ireturn, 1) := by decide +kernel
theorem dX3_wordAt_0 : decode cX3_wordAt 0 = .ok (.aload_n 0, 1) := by decide +kernel
theorem dX3_wordAt_1 : decode cX3_wordAt 1 = .ok (.iload_n 1, 1) := by decide +kernel
theorem dX3_wordAt_2 : decode cX3_wordAt 2 = .ok (.invokevirtual 93, 3) := by decide +kernel
theorem dX3_wordAt_5 : decode cX3_wordAt 5 = .ok (.getfield 110, 3) := by decide +kernel
theorem dX3_wordAt_8 : decode cX3_wordAt 8 = .ok (.astore_n 3, 1) := by decide +kernel
theorem dX3_wordAt_9 : decode cX3_wordAt 9 = .ok (.iload_n 2, 1) := by decide +kernel
theorem dX3_wordAt_10 : decode cX3_wordAt 10 = .ok (.ifCond .lt 9, 3) := by decide +kernel
theorem dX3_wordAt_13 : decode cX3_wordAt 13 = .ok (.iload_n 2, 1) := by decide +kernel
theorem dX3_wordAt_14 : decode cX3_wordAt 14 = .ok (.aload_n 3, 1) := by decide +kernel
theorem dX3_wordAt_15 : decode cX3_wordAt 15 = .ok (.arraylength, 1) := by decide +kernel
theorem dX3_wordAt_16 : decode cX3_wordAt 16 = .ok (.if_icmp .lt 13, 3) := by decide +kernel
theorem dX3_wordAt_19 : decode cX3_wordAt 19 = .ok (.new 113, 3) := by decide +kernel
theorem dX3_wordAt_22 : decode cX3_wordAt 22 = .ok (.dup, 1) := by decide +kernel
theorem dX3_wordAt_23 : decode cX3_wordAt 23 = .ok (.ldc 48, 2) := by decide +kernel
theorem dX3_wordAt_25 : decode cX3_wordAt 25 = .ok (.invokespecial 115, 3) := by decide +kernel
theorem dX3_wordAt_28 : decode cX3_wordAt 28 = .ok (.athrow, 1) := by decide +kernel
theorem dX3_wordAt_29 : decode cX3_wordAt 29 = .ok (.aload_n 3, 1) := by decide +kernel
theorem dX3_wordAt_30 : decode cX3_wordAt 30 = .ok (.iload_n 2, 1) := by decide +kernel
theorem dX3_wordAt_31 : decode cX3_wordAt 31 = .ok (.iaload, 1) := by decide +kernel
theorem dX3_wordAt_32 : decode cX3_wordAt 32 = .ok (.ireturn, 1) := by decide +kernel
theorem dX3_level_0 : decode cX3_level 0 = .ok (.aload_n 0, 1) := by decide +kernel
theorem dX3_level_1 : decode cX3_level 1 = .ok (.iload_n 1, 1) := by decide +kernel
theorem dX3_level_2 : decode cX3_level 2 = .ok (.invokevirtual 93, 3) := by decide +kernel
theorem dX3_level_5 : decode cX3_level 5 = .ok (.getfield 116, 3) := by decide +kernel
theorem dX3_level_8 : decode cX3_level 8 = .ok (.ireturn, 1) := by decide +kernel
theorem dX3_levelAnew_0 : decode cX3_levelAnew 0 = .ok (.aload_n 0, 1) := by decide +kernel
theorem dX3_levelAnew_1 : decode cX3_levelAnew 1 = .ok (.iload_n 1, 1) := by decide +kernel
theorem dX3_levelAnew_2 : decode cX3_levelAnew 2 = .ok (.invokevirtual 93, 3) := by decide +kernel
theorem dX3_levelAnew_5 : decode cX3_levelAnew 5 = .ok (.invokevirtual 119, 3) := by decide +kernel
theorem dX3_levelAnew_8 : decode cX3_levelAnew 8 = .ok (.ireturn, 1) := by decide +kernel
theorem dX3_kind_0 : decode cX3_kind 0 = .ok (.aload_n 0, 1) := by decide +kernel
theorem dX3_kind_1 : decode cX3_kind 1 = .ok (.iload_n 1, 1) := by decide +kernel
theorem dX3_kind_2 : decode cX3_kind 2 = .ok (.invokevirtual 93, 3) := by decide +kernel
theorem dX3_kind_5 : decode cX3_kind 5 = .ok (.invokevirtual 122, 3) := by decide +kernel
theorem dX3_kind_8 : decode cX3_kind 8 = .ok (.ireturn, 1) := by decide +kernel
theorem dX3_search_0 : decode cX3_search 0 = .ok (.aload_n 0, 1) := by decide +kernel
theorem dX3_search_1 : decode cX3_search 1 = .ok (.getfield 53, 3) := by decide +kernel
theorem dX3_search_4 : decode cX3_search 4 = .ok (.ifCond .ne 13, 3) := by decide +kernel
theorem dX3_search_7 : decode cX3_search 7 = .ok (.new 64, 3) := by decide +kernel
theorem dX3_search_10 : decode cX3_search 10 = .ok (.dup, 1) := by decide +kernel
theorem dX3_search_11 : decode cX3_search 11 = .ok (.ldc 66, 2) := by decide +kernel
theorem dX3_search_13 : decode cX3_search 13 = .ok (.invokespecial 68, 3) := by decide +kernel
theorem dX3_search_16 : decode cX3_search 16 = .ok (.athrow, 1) := by decide +kernel
theorem dX3_search_17 : decode cX3_search 17 = .ok (.aload_n 0, 1) := by decide +kernel
theorem dX3_search_18 : decode cX3_search 18 = .ok (.invokevirtual 126, 3) := by decide +kernel
theorem dX3_search_21 : decode cX3_search 21 = .ok (.istore_n 1, 1) := by decide +kernel
theorem dX3_search_22 : decode cX3_search 22 = .ok (.aload_n 0, 1) := by decide +kernel
theorem dX3_search_23 : decode cX3_search 23 = .ok (.getfield 20, 3) := by decide +kernel
theorem dX3_search_26 : decode cX3_search 26 = .ok (.invokevirtual 129, 3) := by decide +kernel
theorem dX3_search_29 : decode cX3_search 29 = .ok (.iconst 0, 1) := by decide +kernel
theorem dX3_search_30 : decode cX3_search 30 = .ok (.istore_n 2, 1) := by decide +kernel
theorem dX3_search_31 : decode cX3_search 31 = .ok (.iload_n 2, 1) := by decide +kernel
theorem dX3_search_32 : decode cX3_search 32 = .ok (.aload_n 0, 1) := by decide +kernel
theorem dX3_search_33 : decode cX3_search 33 = .ok (.getfield 16, 3) := by decide +kernel
theorem dX3_search_36 : decode cX3_search 36 = .ok (.invokevirtual 69, 3) := by decide +kernel
theorem dX3_search_39 : decode cX3_search 39 = .ok (.if_icmp .ge 53, 3) := by decide +kernel
theorem dX3_search_42 : decode cX3_search 42 = .ok (.aload_n 0, 1) := by decide +kernel
theorem dX3_search_43 : decode cX3_search 43 = .ok (.getfield 16, 3) := by decide +kernel
theorem dX3_search_46 : decode cX3_search 46 = .ok (.iload_n 2, 1) := by decide +kernel
theorem dX3_search_47 : decode cX3_search 47 = .ok (.invokevirtual 132, 3) := by decide +kernel
theorem dX3_search_50 : decode cX3_search 50 = .ok (.checkcast 75, 3) := by decide +kernel
theorem dX3_search_53 : decode cX3_search 53 = .ok (.astore_n 3, 1) := by decide +kernel
theorem dX3_search_54 : decode cX3_search 54 = .ok (.aload_n 3, 1) := by decide +kernel
theorem dX3_search_55 : decode cX3_search 55 = .ok (.aload_n 3, 1) := by decide +kernel
theorem dX3_search_56 : decode cX3_search 56 = .ok (.iload_n 1, 1) := by decide +kernel
theorem dX3_search_57 : decode cX3_search 57 = .ok (.invokevirtual 136, 3) := by decide +kernel
theorem dX3_search_60 : decode cX3_search 60 = .ok (.putfield 140, 3) := by decide +kernel
theorem dX3_search_63 : decode cX3_search 63 = .ok (.aload_n 3, 1) := by decide +kernel
theorem dX3_search_64 : decode cX3_search 64 = .ok (.getfield 140, 3) := by decide +kernel
theorem dX3_search_67 : decode cX3_search 67 = .ok (.ifCond .le 19, 3) := by decide +kernel
theorem dX3_search_70 : decode cX3_search 70 = .ok (.aload_n 0, 1) := by decide +kernel
theorem dX3_search_71 : decode cX3_search 71 = .ok (.getfield 20, 3) := by decide +kernel
theorem dX3_search_74 : decode cX3_search 74 = .ok (.aload_n 0, 1) := by decide +kernel
theorem dX3_search_75 : decode cX3_search 75 = .ok (.aload_n 3, 1) := by decide +kernel
theorem dX3_search_76 : decode cX3_search 76 = .ok (.getfield 140, 3) := by decide +kernel
theorem dX3_search_79 : decode cX3_search 79 = .ok (.invokevirtual 143, 3) := by decide +kernel
theorem dX3_search_82 : decode cX3_search 82 = .ok (.aload_n 3, 1) := by decide +kernel
theorem dX3_search_83 : decode cX3_search 83 = .ok (.invokevirtual 146, 3) := by decide +kernel
theorem dX3_search_86 : decode cX3_search 86 = .ok (.iinc 2 1, 3) := by decide +kernel
theorem dX3_search_89 : decode cX3_search 89 = .ok (.goto (-58), 3) := by decide +kernel
theorem dX3_search_92 : decode cX3_search 92 = .ok (.aload_n 0, 1) := by decide +kernel
theorem dX3_search_93 : decode cX3_search 93 = .ok (.getfield 20, 3) := by decide +kernel
theorem dX3_search_96 : decode cX3_search 96 = .ok (.invokevirtual 69, 3) := by decide +kernel
theorem dX3_search_99 : decode cX3_search 99 = .ok (.ireturn, 1) := by decide +kernel
theorem dX3_hitAt_0 : decode cX3_hitAt 0 = .ok (.aload_n 0, 1) := by decide +kernel
theorem dX3_hitAt_1 : decode cX3_hitAt 1 = .ok (.iload_n 1, 1) := by decide +kernel
theorem dX3_hitAt_2 : decode cX3_hitAt 2 = .ok (.invokevirtual 149, 3) := by decide +kernel
theorem dX3_hitAt_5 : decode cX3_hitAt 5 = .ok (.getfield 152, 3) := by decide +kernel
theorem dX3_hitAt_8 : decode cX3_hitAt 8 = .ok (.ireturn, 1) := by decide +kernel
theorem dX3_rankAt_0 : decode cX3_rankAt 0 = .ok (.aload_n 0, 1) := by decide +kernel
theorem dX3_rankAt_1 : decode cX3_rankAt 1 = .ok (.iload_n 1, 1) := by decide +kernel
theorem dX3_rankAt_2 : decode cX3_rankAt 2 = .ok (.invokevirtual 149, 3) := by decide +kernel
theorem dX3_rankAt_5 : decode cX3_rankAt 5 = .ok (.getfield 140, 3) := by decide +kernel
theorem dX3_rankAt_8 : decode cX3_rankAt 8 = .ok (.ireturn, 1) := by decide +kernel
theorem dX3_week_0 : decode cX3_week 0 = .ok (.aload_n 0, 1) := by decide +kernel
theorem dX3_week_1 : decode cX3_week 1 = .ok (.getfield 155, 3) := by decide +kernel
theorem dX3_week_4 : decode cX3_week 4 = .ok (.ireturn, 1) := by decide +kernel
theorem dX3_nextWeek_0 : decode cX3_nextWeek 0 = .ok (.aload_n 0, 1) := by decide +kernel
theorem dX3_nextWeek_1 : decode cX3_nextWeek 1 = .ok (.getfield 155, 3) := by decide +kernel
theorem dX3_nextWeek_4 : decode cX3_nextWeek 4 = .ok (.sipush 999, 3) := by decide +kernel
theorem dX3_nextWeek_7 : decode cX3_nextWeek 7 = .ok (.if_icmp .lt 13, 3) := by decide +kernel
theorem dX3_nextWeek_10 : decode cX3_nextWeek 10 = .ok (.new 57, 3) := by decide +kernel
theorem dX3_nextWeek_13 : decode cX3_nextWeek 13 = .ok (.dup, 1) := by decide +kernel
theorem dX3_nextWeek_14 : decode cX3_nextWeek 14 = .ok (.ldc 158, 2) := by decide +kernel
theorem dX3_nextWeek_16 : decode cX3_nextWeek 16 = .ok (.invokespecial 61, 3) := by decide +kernel
theorem dX3_nextWeek_19 : decode cX3_nextWeek 19 = .ok (.athrow, 1) := by decide +kernel
theorem dX3_nextWeek_20 : decode cX3_nextWeek 20 = .ok (.aload_n 0, 1) := by decide +kernel
theorem dX3_nextWeek_21 : decode cX3_nextWeek 21 = .ok (.dup, 1) := by decide +kernel
theorem dX3_nextWeek_22 : decode cX3_nextWeek 22 = .ok (.getfield 155, 3) := by decide +kernel
theorem dX3_nextWeek_25 : decode cX3_nextWeek 25 = .ok (.iconst 1, 1) := by decide +kernel
theorem dX3_nextWeek_26 : decode cX3_nextWeek 26 = .ok (.iadd, 1) := by decide +kernel
theorem dX3_nextWeek_27 : decode cX3_nextWeek 27 = .ok (.putfield 155, 3) := by decide +kernel
theorem dX3_nextWeek_30 : decode cX3_nextWeek 30 = .ok (.aload_n 0, 1) := by decide +kernel
theorem dX3_nextWeek_31 : decode cX3_nextWeek 31 = .ok (.invokevirtual 90, 3) := by decide +kernel
theorem dX3_nextWeek_34 : decode cX3_nextWeek 34 = .ok (.aload_n 0, 1) := by decide +kernel
theorem dX3_nextWeek_35 : decode cX3_nextWeek 35 = .ok (.getfield 155, 3) := by decide +kernel
theorem dX3_nextWeek_38 : decode cX3_nextWeek 38 = .ok (.ireturn, 1) := by decide +kernel
theorem dX3_plan_0 : decode cX3_plan 0 = .ok (.iload_n 1, 1) := by decide +kernel
theorem dX3_plan_1 : decode cX3_plan 1 = .ok (.aload_n 0, 1) := by decide +kernel
theorem dX3_plan_2 : decode cX3_plan 2 = .ok (.getfield 155, 3) := by decide +kernel
theorem dX3_plan_5 : decode cX3_plan 5 = .ok (.sipush 999, 3) := by decide +kernel
theorem dX3_plan_8 : decode cX3_plan 8 = .ok (.invokestatic 42, 3) := by decide +kernel
theorem dX3_plan_11 : decode cX3_plan 11 = .ok (.ifCond .eq 13, 3) := by decide +kernel
theorem dX3_plan_14 : decode cX3_plan 14 = .ok (.new 46, 3) := by decide +kernel
theorem dX3_plan_17 : decode cX3_plan 17 = .ok (.dup, 1) := by decide +kernel
theorem dX3_plan_18 : decode cX3_plan 18 = .ok (.ldc 160, 2) := by decide +kernel
theorem dX3_plan_20 : decode cX3_plan 20 = .ok (.invokespecial 50, 3) := by decide +kernel
theorem dX3_plan_23 : decode cX3_plan 23 = .ok (.athrow, 1) := by decide +kernel
theorem dX3_plan_24 : decode cX3_plan 24 = .ok (.iload_n 2, 1) := by decide +kernel
theorem dX3_plan_25 : decode cX3_plan 25 = .ok (.bipush 101, 2) := by decide +kernel
theorem dX3_plan_27 : decode cX3_plan 27 = .ok (.if_icmp .eq 25, 3) := by decide +kernel
theorem dX3_plan_30 : decode cX3_plan 30 = .ok (.iload_n 2, 1) := by decide +kernel
theorem dX3_plan_31 : decode cX3_plan 31 = .ok (.bipush 109, 2) := by decide +kernel
theorem dX3_plan_33 : decode cX3_plan 33 = .ok (.if_icmp .eq 19, 3) := by decide +kernel
theorem dX3_plan_36 : decode cX3_plan 36 = .ok (.iload_n 2, 1) := by decide +kernel
theorem dX3_plan_37 : decode cX3_plan 37 = .ok (.bipush 104, 2) := by decide +kernel
theorem dX3_plan_39 : decode cX3_plan 39 = .ok (.if_icmp .eq 13, 3) := by decide +kernel
theorem dX3_plan_42 : decode cX3_plan 42 = .ok (.new 46, 3) := by decide +kernel
theorem dX3_plan_45 : decode cX3_plan 45 = .ok (.dup, 1) := by decide +kernel
theorem dX3_plan_46 : decode cX3_plan 46 = .ok (.ldc 162, 2) := by decide +kernel
theorem dX3_plan_48 : decode cX3_plan 48 = .ok (.invokespecial 50, 3) := by decide +kernel
theorem dX3_plan_51 : decode cX3_plan 51 = .ok (.athrow, 1) := by decide +kernel
theorem dX3_plan_52 : decode cX3_plan 52 = .ok (.iload_n 3, 1) := by decide +kernel
theorem dX3_plan_53 : decode cX3_plan 53 = .ok (.iconst 1, 1) := by decide +kernel
theorem dX3_plan_54 : decode cX3_plan 54 = .ok (.bipush 9, 2) := by decide +kernel
theorem dX3_plan_56 : decode cX3_plan 56 = .ok (.invokestatic 42, 3) := by decide +kernel
theorem dX3_plan_59 : decode cX3_plan 59 = .ok (.ifCond .eq 13, 3) := by decide +kernel
theorem dX3_plan_62 : decode cX3_plan 62 = .ok (.new 46, 3) := by decide +kernel
theorem dX3_plan_65 : decode cX3_plan 65 = .ok (.dup, 1) := by decide +kernel
theorem dX3_plan_66 : decode cX3_plan 66 = .ok (.ldc 164, 2) := by decide +kernel
theorem dX3_plan_68 : decode cX3_plan 68 = .ok (.invokespecial 50, 3) := by decide +kernel
theorem dX3_plan_71 : decode cX3_plan 71 = .ok (.athrow, 1) := by decide +kernel
theorem dX3_plan_72 : decode cX3_plan 72 = .ok (.aload_n 0, 1) := by decide +kernel
theorem dX3_plan_73 : decode cX3_plan 73 = .ok (.getfield 23, 3) := by decide +kernel
theorem dX3_plan_76 : decode cX3_plan 76 = .ok (.invokevirtual 69, 3) := by decide +kernel
theorem dX3_plan_79 : decode cX3_plan 79 = .ok (.bipush 12, 2) := by decide +kernel
theorem dX3_plan_81 : decode cX3_plan 81 = .ok (.if_icmp .lt 13, 3) := by decide +kernel
theorem dX3_plan_84 : decode cX3_plan 84 = .ok (.new 57, 3) := by decide +kernel
theorem dX3_plan_87 : decode cX3_plan 87 = .ok (.dup, 1) := by decide +kernel
theorem dX3_plan_88 : decode cX3_plan 88 = .ok (.ldc 166, 2) := by decide +kernel
theorem dX3_plan_90 : decode cX3_plan 90 = .ok (.invokespecial 61, 3) := by decide +kernel
theorem dX3_plan_93 : decode cX3_plan 93 = .ok (.athrow, 1) := by decide +kernel
theorem dX3_plan_94 : decode cX3_plan 94 = .ok (.aload_n 0, 1) := by decide +kernel
theorem dX3_plan_95 : decode cX3_plan 95 = .ok (.getfield 23, 3) := by decide +kernel
theorem dX3_plan_98 : decode cX3_plan 98 = .ok (.new 168, 3) := by decide +kernel
theorem dX3_plan_101 : decode cX3_plan 101 = .ok (.dup, 1) := by decide +kernel
theorem dX3_plan_102 : decode cX3_plan 102 = .ok (.iload_n 1, 1) := by decide +kernel
theorem dX3_plan_103 : decode cX3_plan 103 = .ok (.iload_n 2, 1) := by decide +kernel
theorem dX3_plan_104 : decode cX3_plan 104 = .ok (.iload_n 3, 1) := by decide +kernel
theorem dX3_plan_105 : decode cX3_plan 105 = .ok (.invokespecial 170, 3) := by decide +kernel
theorem dX3_plan_108 : decode cX3_plan 108 = .ok (.invokevirtual 86, 3) := by decide +kernel
theorem dX3_plan_111 : decode cX3_plan 111 = .ok (.pop, 1) := by decide +kernel
theorem dX3_plan_112 : decode cX3_plan 112 = .ok (.aload_n 0, 1) := by decide +kernel
theorem dX3_plan_113 : decode cX3_plan 113 = .ok (.invokevirtual 90, 3) := by decide +kernel
theorem dX3_plan_116 : decode cX3_plan 116 = .ok (.aload_n 0, 1) := by decide +kernel
theorem dX3_plan_117 : decode cX3_plan 117 = .ok (.getfield 23, 3) := by decide +kernel
theorem dX3_plan_120 : decode cX3_plan 120 = .ok (.invokevirtual 69, 3) := by decide +kernel
theorem dX3_plan_123 : decode cX3_plan 123 = .ok (.iconst 1, 1) := by decide +kernel
theorem dX3_plan_124 : decode cX3_plan 124 = .ok (.isub, 1) := by decide +kernel
theorem dX3_plan_125 : decode cX3_plan 125 = .ok (.ireturn, 1) := by decide +kernel
theorem dX3_drop_0 : decode cX3_drop 0 = .ok (.aload_n 0, 1) := by decide +kernel
theorem dX3_drop_1 : decode cX3_drop 1 = .ok (.iload_n 1, 1) := by decide +kernel
theorem dX3_drop_2 : decode cX3_drop 2 = .ok (.invokevirtual 173, 3) := by decide +kernel
theorem dX3_drop_5 : decode cX3_drop 5 = .ok (.astore_n 2, 1) := by decide +kernel
theorem dX3_drop_6 : decode cX3_drop 6 = .ok (.aload_n 2, 1) := by decide +kernel
theorem dX3_drop_7 : decode cX3_drop 7 = .ok (.getfield 177, 3) := by decide +kernel
theorem dX3_drop_10 : decode cX3_drop 10 = .ok (.ifCond .eq 13, 3) := by decide +kernel
theorem dX3_drop_13 : decode cX3_drop 13 = .ok (.new 64, 3) := by decide +kernel
theorem dX3_drop_16 : decode cX3_drop 16 = .ok (.dup, 1) := by decide +kernel
theorem dX3_drop_17 : decode cX3_drop 17 = .ok (.ldc 181, 2) := by decide +kernel
theorem dX3_drop_19 : decode cX3_drop 19 = .ok (.invokespecial 68, 3) := by decide +kernel
theorem dX3_drop_22 : decode cX3_drop 22 = .ok (.athrow, 1) := by decide +kernel
theorem dX3_drop_23 : decode cX3_drop 23 = .ok (.aload_n 2, 1) := by decide +kernel
theorem dX3_drop_24 : decode cX3_drop 24 = .ok (.getfield 183, 3) := by decide +kernel
theorem dX3_drop_27 : decode cX3_drop 27 = .ok (.invokevirtual 69, 3) := by decide +kernel
theorem dX3_drop_30 : decode cX3_drop 30 = .ok (.istore_n 3, 1) := by decide +kernel
theorem dX3_drop_31 : decode cX3_drop 31 = .ok (.aload_n 2, 1) := by decide +kernel
theorem dX3_drop_32 : decode cX3_drop 32 = .ok (.invokestatic 186, 3) := by decide +kernel
theorem dX3_drop_35 : decode cX3_drop 35 = .ok (.aload_n 0, 1) := by decide +kernel
theorem dX3_drop_36 : decode cX3_drop 36 = .ok (.invokevirtual 90, 3) := by decide +kernel
theorem dX3_drop_39 : decode cX3_drop 39 = .ok (.iload_n 3, 1) := by decide +kernel
theorem dX3_drop_40 : decode cX3_drop 40 = .ok (.ireturn, 1) := by decide +kernel
theorem dX3_held_0 : decode cX3_held 0 = .ok (.aload_n 0, 1) := by decide +kernel
theorem dX3_held_1 : decode cX3_held 1 = .ok (.iload_n 1, 1) := by decide +kernel
theorem dX3_held_2 : decode cX3_held 2 = .ok (.invokevirtual 173, 3) := by decide +kernel
theorem dX3_held_5 : decode cX3_held 5 = .ok (.getfield 183, 3) := by decide +kernel
theorem dX3_held_8 : decode cX3_held 8 = .ok (.invokevirtual 69, 3) := by decide +kernel
theorem dX3_held_11 : decode cX3_held 11 = .ok (.ireturn, 1) := by decide +kernel
theorem dX3_heldAt_0 : decode cX3_heldAt 0 = .ok (.aload_n 0, 1) := by decide +kernel
theorem dX3_heldAt_1 : decode cX3_heldAt 1 = .ok (.iload_n 1, 1) := by decide +kernel
theorem dX3_heldAt_2 : decode cX3_heldAt 2 = .ok (.invokevirtual 173, 3) := by decide +kernel
theorem dX3_heldAt_5 : decode cX3_heldAt 5 = .ok (.getfield 183, 3) := by decide +kernel
theorem dX3_heldAt_8 : decode cX3_heldAt 8 = .ok (.iload_n 2, 1) := by decide +kernel
theorem dX3_heldAt_9 : decode cX3_heldAt 9 = .ok (.invokestatic 190, 3) := by decide +kernel
theorem dX3_heldAt_12 : decode cX3_heldAt 12 = .ok (.getfield 152, 3) := by decide +kernel
theorem dX3_heldAt_15 : decode cX3_heldAt 15 = .ok (.ireturn, 1) := by decide +kernel
theorem dX3_lacks_0 : decode cX3_lacks 0 = .ok (.aload_n 0, 1) := by decide +kernel
theorem dX3_lacks_1 : decode cX3_lacks 1 = .ok (.iload_n 1, 1) := by decide +kernel
theorem dX3_lacks_2 : decode cX3_lacks 2 = .ok (.invokevirtual 173, 3) := by decide +kernel
theorem dX3_lacks_5 : decode cX3_lacks 5 = .ok (.astore_n 2, 1) := by decide +kernel
theorem dX3_lacks_6 : decode cX3_lacks 6 = .ok (.aload_n 0, 1) := by decide +kernel
theorem dX3_lacks_7 : decode cX3_lacks 7 = .ok (.aload_n 2, 1) := by decide +kernel
theorem dX3_lacks_8 : decode cX3_lacks 8 = .ok (.invokevirtual 194, 3) := by decide +kernel
theorem dX3_lacks_11 : decode cX3_lacks 11 = .ok (.ifCond .eq 10, 3) := by decide +kernel
theorem dX3_lacks_14 : decode cX3_lacks 14 = .ok (.aload_n 2, 1) := by decide +kernel
theorem dX3_lacks_15 : decode cX3_lacks 15 = .ok (.invokevirtual 198, 3) := by decide +kernel
theorem dX3_lacks_18 : decode cX3_lacks 18 = .ok (.goto 4, 3) := by decide +kernel
theorem dX3_lacks_21 : decode cX3_lacks 21 = .ok (.iconst 0, 1) := by decide +kernel
theorem dX3_lacks_22 : decode cX3_lacks 22 = .ok (.ireturn, 1) := by decide +kernel
theorem dX3_isFree_0 : decode cX3_isFree 0 = .ok (.aload_n 0, 1) := by decide +kernel
theorem dX3_isFree_1 : decode cX3_isFree 1 = .ok (.aload_n 0, 1) := by decide +kernel
theorem dX3_isFree_2 : decode cX3_isFree 2 = .ok (.iload_n 1, 1) := by decide +kernel
theorem dX3_isFree_3 : decode cX3_isFree 3 = .ok (.invokevirtual 93, 3) := by decide +kernel
theorem dX3_isFree_6 : decode cX3_isFree 6 = .ok (.invokevirtual 201, 3) := by decide +kernel
theorem dX3_isFree_9 : decode cX3_isFree 9 = .ok (.ireturn, 1) := by decide +kernel
theorem dX3_quiz_0 : decode cX3_quiz 0 = .ok (.iload_n 1, 1) := by decide +kernel
theorem dX3_quiz_1 : decode cX3_quiz 1 = .ok (.iconst 0, 1) := by decide +kernel
theorem dX3_quiz_2 : decode cX3_quiz 2 = .ok (.sipush 1008, 3) := by decide +kernel
theorem dX3_quiz_5 : decode cX3_quiz 5 = .ok (.invokestatic 42, 3) := by decide +kernel
theorem dX3_quiz_8 : decode cX3_quiz 8 = .ok (.ifCond .ne 34, 3) := by decide +kernel
theorem dX3_quiz_11 : decode cX3_quiz 11 = .ok (.iload_n 2, 1) := by decide +kernel
theorem dX3_quiz_12 : decode cX3_quiz 12 = .ok (.iconst 0, 1) := by decide +kernel
theorem dX3_quiz_13 : decode cX3_quiz 13 = .ok (.bipush 9, 2) := by decide +kernel
theorem dX3_quiz_15 : decode cX3_quiz 15 = .ok (.invokestatic 42, 3) := by decide +kernel
theorem dX3_quiz_18 : decode cX3_quiz 18 = .ok (.ifCond .ne 24, 3) := by decide +kernel
theorem dX3_quiz_21 : decode cX3_quiz 21 = .ok (.iload_n 3, 1) := by decide +kernel
theorem dX3_quiz_22 : decode cX3_quiz 22 = .ok (.iconst 0, 1) := by decide +kernel
theorem dX3_quiz_23 : decode cX3_quiz 23 = .ok (.bipush 9, 2) := by decide +kernel
theorem dX3_quiz_25 : decode cX3_quiz 25 = .ok (.invokestatic 42, 3) := by decide +kernel
theorem dX3_quiz_28 : decode cX3_quiz 28 = .ok (.ifCond .ne 14, 3) := by decide +kernel
theorem dX3_quiz_31 : decode cX3_quiz 31 = .ok (.iload 4, 2) := by decide +kernel
theorem dX3_quiz_33 : decode cX3_quiz 33 = .ok (.iconst 0, 1) := by decide +kernel
theorem dX3_quiz_34 : decode cX3_quiz 34 = .ok (.bipush 9, 2) := by decide +kernel
theorem dX3_quiz_36 : decode cX3_quiz 36 = .ok (.invokestatic 42, 3) := by decide +kernel
theorem dX3_quiz_39 : decode cX3_quiz 39 = .ok (.ifCond .eq 13, 3) := by decide +kernel
theorem dX3_quiz_42 : decode cX3_quiz 42 = .ok (.new 46, 3) := by decide +kernel
theorem dX3_quiz_45 : decode cX3_quiz 45 = .ok (.dup, 1) := by decide +kernel
theorem dX3_quiz_46 : decode cX3_quiz 46 = .ok (.ldc 205, 2) := by decide +kernel
theorem dX3_quiz_48 : decode cX3_quiz 48 = .ok (.invokespecial 50, 3) := by decide +kernel
theorem dX3_quiz_51 : decode cX3_quiz 51 = .ok (.athrow, 1) := by decide +kernel
theorem dX3_quiz_52 : decode cX3_quiz 52 = .ok (.iload_n 2, 1) := by decide +kernel
theorem dX3_quiz_53 : decode cX3_quiz 53 = .ok (.iload_n 3, 1) := by decide +kernel
theorem dX3_quiz_54 : decode cX3_quiz 54 = .ok (.iadd, 1) := by decide +kernel
theorem dX3_quiz_55 : decode cX3_quiz 55 = .ok (.iload 4, 2) := by decide +kernel
theorem dX3_quiz_57 : decode cX3_quiz 57 = .ok (.iadd, 1) := by decide +kernel
theorem dX3_quiz_58 : decode cX3_quiz 58 = .ok (.ifCond .ne 13, 3) := by decide +kernel
theorem dX3_quiz_61 : decode cX3_quiz 61 = .ok (.new 46, 3) := by decide +kernel
theorem dX3_quiz_64 : decode cX3_quiz 64 = .ok (.dup, 1) := by decide +kernel
theorem dX3_quiz_65 : decode cX3_quiz 65 = .ok (.ldc 207, 2) := by decide +kernel
theorem dX3_quiz_67 : decode cX3_quiz 67 = .ok (.invokespecial 50, 3) := by decide +kernel
theorem dX3_quiz_70 : decode cX3_quiz 70 = .ok (.athrow, 1) := by decide +kernel
theorem dX3_quiz_71 : decode cX3_quiz 71 = .ok (.aload_n 0, 1) := by decide +kernel
theorem dX3_quiz_72 : decode cX3_quiz 72 = .ok (.iload_n 1, 1) := by decide +kernel
theorem dX3_quiz_73 : decode cX3_quiz 73 = .ok (.iload_n 2, 1) := by decide +kernel
theorem dX3_quiz_74 : decode cX3_quiz 74 = .ok (.iload_n 3, 1) := by decide +kernel
theorem dX3_quiz_75 : decode cX3_quiz 75 = .ok (.iload 4, 2) := by decide +kernel
theorem dX3_quiz_77 : decode cX3_quiz 77 = .ok (.invokevirtual 209, 3) := by decide +kernel
theorem dX3_quiz_80 : decode cX3_quiz 80 = .ok (.ifCond .ne 13, 3) := by decide +kernel
theorem dX3_quiz_83 : decode cX3_quiz 83 = .ok (.new 113, 3) := by decide +kernel
theorem dX3_quiz_86 : decode cX3_quiz 86 = .ok (.dup, 1) := by decide +kernel
theorem dX3_quiz_87 : decode cX3_quiz 87 = .ok (.ldc 213, 2) := by decide +kernel
theorem dX3_quiz_89 : decode cX3_quiz 89 = .ok (.invokespecial 115, 3) := by decide +kernel
theorem dX3_quiz_92 : decode cX3_quiz 92 = .ok (.athrow, 1) := by decide +kernel
theorem dX3_quiz_93 : decode cX3_quiz 93 = .ok (.aload_n 0, 1) := by decide +kernel
theorem dX3_quiz_94 : decode cX3_quiz 94 = .ok (.getfield 26, 3) := by decide +kernel
theorem dX3_quiz_97 : decode cX3_quiz 97 = .ok (.invokevirtual 69, 3) := by decide +kernel
theorem dX3_quiz_100 : decode cX3_quiz 100 = .ok (.bipush 30, 2) := by decide +kernel
theorem dX3_quiz_102 : decode cX3_quiz 102 = .ok (.if_icmp .lt 13, 3) := by decide +kernel
theorem dX3_quiz_105 : decode cX3_quiz 105 = .ok (.new 57, 3) := by decide +kernel
theorem dX3_quiz_108 : decode cX3_quiz 108 = .ok (.dup, 1) := by decide +kernel
theorem dX3_quiz_109 : decode cX3_quiz 109 = .ok (.ldc 215, 2) := by decide +kernel
theorem dX3_quiz_111 : decode cX3_quiz 111 = .ok (.invokespecial 61, 3) := by decide +kernel
theorem dX3_quiz_114 : decode cX3_quiz 114 = .ok (.athrow, 1) := by decide +kernel
theorem dX3_quiz_115 : decode cX3_quiz 115 = .ok (.aload_n 0, 1) := by decide +kernel
theorem dX3_quiz_116 : decode cX3_quiz 116 = .ok (.new 217, 3) := by decide +kernel
theorem dX3_quiz_119 : decode cX3_quiz 119 = .ok (.dup, 1) := by decide +kernel
theorem dX3_quiz_120 : decode cX3_quiz 120 = .ok (.aload_n 0, 1) := by decide +kernel
theorem dX3_quiz_121 : decode cX3_quiz 121 = .ok (.getfield 29, 3) := by decide +kernel
theorem dX3_quiz_124 : decode cX3_quiz 124 = .ok (.invokespecial 219, 3) := by decide +kernel
theorem dX3_quiz_127 : decode cX3_quiz 127 = .ok (.invokevirtual 222, 3) := by decide +kernel
theorem dX3_quiz_130 : decode cX3_quiz 130 = .ok (.ireturn, 1) := by decide +kernel
theorem dX3_quizOf_0 : decode cX3_quizOf 0 = .ok (.aload_n 0, 1) := by decide +kernel
theorem dX3_quizOf_1 : decode cX3_quizOf 1 = .ok (.iload_n 1, 1) := by decide +kernel
theorem dX3_quizOf_2 : decode cX3_quizOf 2 = .ok (.invokevirtual 173, 3) := by decide +kernel
theorem dX3_quizOf_5 : decode cX3_quizOf 5 = .ok (.astore_n 2, 1) := by decide +kernel
theorem dX3_quizOf_6 : decode cX3_quizOf 6 = .ok (.aload_n 2, 1) := by decide +kernel
theorem dX3_quizOf_7 : decode cX3_quizOf 7 = .ok (.getfield 226, 3) := by decide +kernel
theorem dX3_quizOf_10 : decode cX3_quizOf 10 = .ok (.aload_n 0, 1) := by decide +kernel
theorem dX3_quizOf_11 : decode cX3_quizOf 11 = .ok (.getfield 155, 3) := by decide +kernel
theorem dX3_quizOf_14 : decode cX3_quizOf 14 = .ok (.if_icmp .ne 20, 3) := by decide +kernel
theorem dX3_quizOf_17 : decode cX3_quizOf 17 = .ok (.aload_n 2, 1) := by decide +kernel
theorem dX3_quizOf_18 : decode cX3_quizOf 18 = .ok (.getfield 177, 3) := by decide +kernel
theorem dX3_quizOf_21 : decode cX3_quizOf 21 = .ok (.ifCond .ne 13, 3) := by decide +kernel
theorem dX3_quizOf_24 : decode cX3_quizOf 24 = .ok (.aload_n 2, 1) := by decide +kernel
theorem dX3_quizOf_25 : decode cX3_quizOf 25 = .ok (.getfield 183, 3) := by decide +kernel
theorem dX3_quizOf_28 : decode cX3_quizOf 28 = .ok (.invokevirtual 229, 3) := by decide +kernel
theorem dX3_quizOf_31 : decode cX3_quizOf 31 = .ok (.ifCond .eq 13, 3) := by decide +kernel
theorem dX3_quizOf_34 : decode cX3_quizOf 34 = .ok (.new 64, 3) := by decide +kernel
theorem dX3_quizOf_37 : decode cX3_quizOf 37 = .ok (.dup, 1) := by decide +kernel
theorem dX3_quizOf_38 : decode cX3_quizOf 38 = .ok (.ldc 233, 2) := by decide +kernel
theorem dX3_quizOf_40 : decode cX3_quizOf 40 = .ok (.invokespecial 68, 3) := by decide +kernel
theorem dX3_quizOf_43 : decode cX3_quizOf 43 = .ok (.athrow, 1) := by decide +kernel
theorem dX3_quizOf_44 : decode cX3_quizOf 44 = .ok (.aload_n 0, 1) := by decide +kernel
theorem dX3_quizOf_45 : decode cX3_quizOf 45 = .ok (.getfield 26, 3) := by decide +kernel
theorem dX3_quizOf_48 : decode cX3_quizOf 48 = .ok (.invokevirtual 69, 3) := by decide +kernel
theorem dX3_quizOf_51 : decode cX3_quizOf 51 = .ok (.bipush 30, 2) := by decide +kernel
theorem dX3_quizOf_53 : decode cX3_quizOf 53 = .ok (.if_icmp .lt 13, 3) := by decide +kernel
theorem dX3_quizOf_56 : decode cX3_quizOf 56 = .ok (.new 57, 3) := by decide +kernel
theorem dX3_quizOf_59 : decode cX3_quizOf 59 = .ok (.dup, 1) := by decide +kernel
theorem dX3_quizOf_60 : decode cX3_quizOf 60 = .ok (.ldc 215, 2) := by decide +kernel
theorem dX3_quizOf_62 : decode cX3_quizOf 62 = .ok (.invokespecial 61, 3) := by decide +kernel
theorem dX3_quizOf_65 : decode cX3_quizOf 65 = .ok (.athrow, 1) := by decide +kernel
theorem dX3_quizOf_66 : decode cX3_quizOf 66 = .ok (.new 217, 3) := by decide +kernel
theorem dX3_quizOf_69 : decode cX3_quizOf 69 = .ok (.dup, 1) := by decide +kernel
theorem dX3_quizOf_70 : decode cX3_quizOf 70 = .ok (.aload_n 2, 1) := by decide +kernel
theorem dX3_quizOf_71 : decode cX3_quizOf 71 = .ok (.getfield 183, 3) := by decide +kernel
theorem dX3_quizOf_74 : decode cX3_quizOf 74 = .ok (.invokespecial 219, 3) := by decide +kernel
theorem dX3_quizOf_77 : decode cX3_quizOf 77 = .ok (.astore_n 3, 1) := by decide +kernel
theorem dX3_quizOf_78 : decode cX3_quizOf 78 = .ok (.aload_n 2, 1) := by decide +kernel
theorem dX3_quizOf_79 : decode cX3_quizOf 79 = .ok (.invokestatic 186, 3) := by decide +kernel
theorem dX3_quizOf_82 : decode cX3_quizOf 82 = .ok (.aload_n 0, 1) := by decide +kernel
theorem dX3_quizOf_83 : decode cX3_quizOf 83 = .ok (.aload_n 3, 1) := by decide +kernel
theorem dX3_quizOf_84 : decode cX3_quizOf 84 = .ok (.invokevirtual 222, 3) := by decide +kernel
theorem dX3_quizOf_87 : decode cX3_quizOf 87 = .ok (.ireturn, 1) := by decide +kernel
theorem dX3_size_0 : decode cX3_size 0 = .ok (.aload_n 0, 1) := by decide +kernel
theorem dX3_size_1 : decode cX3_size 1 = .ok (.iload_n 1, 1) := by decide +kernel
theorem dX3_size_2 : decode cX3_size 2 = .ok (.invokevirtual 235, 3) := by decide +kernel
theorem dX3_size_5 : decode cX3_size 5 = .ok (.getfield 239, 3) := by decide +kernel
theorem dX3_size_8 : decode cX3_size 8 = .ok (.invokevirtual 69, 3) := by decide +kernel
theorem dX3_size_11 : decode cX3_size 11 = .ok (.ireturn, 1) := by decide +kernel
theorem dX3_questionAt_0 : decode cX3_questionAt 0 = .ok (.aload_n 0, 1) := by decide +kernel
theorem dX3_questionAt_1 : decode cX3_questionAt 1 = .ok (.iload_n 1, 1) := by decide +kernel
theorem dX3_questionAt_2 : decode cX3_questionAt 2 = .ok (.invokevirtual 235, 3) := by decide +kernel
theorem dX3_questionAt_5 : decode cX3_questionAt 5 = .ok (.getfield 239, 3) := by decide +kernel
theorem dX3_questionAt_8 : decode cX3_questionAt 8 = .ok (.iload_n 2, 1) := by decide +kernel
theorem dX3_questionAt_9 : decode cX3_questionAt 9 = .ok (.invokestatic 190, 3) := by decide +kernel
theorem dX3_questionAt_12 : decode cX3_questionAt 12 = .ok (.getfield 152, 3) := by decide +kernel
theorem dX3_questionAt_15 : decode cX3_questionAt 15 = .ok (.ireturn, 1) := by decide +kernel
theorem dX3_stateOf_0 : decode cX3_stateOf 0 = .ok (.aload_n 0, 1) := by decide +kernel
theorem dX3_stateOf_1 : decode cX3_stateOf 1 = .ok (.iload_n 1, 1) := by decide +kernel
theorem dX3_stateOf_2 : decode cX3_stateOf 2 = .ok (.invokevirtual 235, 3) := by decide +kernel
theorem dX3_stateOf_5 : decode cX3_stateOf 5 = .ok (.getfield 240, 3) := by decide +kernel
theorem dX3_stateOf_8 : decode cX3_stateOf 8 = .ok (.ireturn, 1) := by decide +kernel
theorem dX3_waiting_0 : decode cX3_waiting 0 = .ok (.iconst 0, 1) := by decide +kernel
theorem dX3_waiting_1 : decode cX3_waiting 1 = .ok (.istore_n 1, 1) := by decide +kernel
theorem dX3_waiting_2 : decode cX3_waiting 2 = .ok (.iconst 0, 1) := by decide +kernel
theorem dX3_waiting_3 : decode cX3_waiting 3 = .ok (.istore_n 2, 1) := by decide +kernel
theorem dX3_waiting_4 : decode cX3_waiting 4 = .ok (.iload_n 2, 1) := by decide +kernel
theorem dX3_waiting_5 : decode cX3_waiting 5 = .ok (.aload_n 0, 1) := by decide +kernel
theorem dX3_waiting_6 : decode cX3_waiting 6 = .ok (.getfield 26, 3) := by decide +kernel
theorem dX3_waiting_9 : decode cX3_waiting 9 = .ok (.invokevirtual 69, 3) := by decide +kernel
theorem dX3_waiting_12 : decode cX3_waiting 12 = .ok (.if_icmp .ge 31, 3) := by decide +kernel
theorem dX3_waiting_15 : decode cX3_waiting 15 = .ok (.aload_n 0, 1) := by decide +kernel
theorem dX3_waiting_16 : decode cX3_waiting 16 = .ok (.getfield 26, 3) := by decide +kernel
theorem dX3_waiting_19 : decode cX3_waiting 19 = .ok (.iload_n 2, 1) := by decide +kernel
theorem dX3_waiting_20 : decode cX3_waiting 20 = .ok (.invokevirtual 132, 3) := by decide +kernel
theorem dX3_waiting_23 : decode cX3_waiting 23 = .ok (.checkcast 217, 3) := by decide +kernel
theorem dX3_waiting_26 : decode cX3_waiting 26 = .ok (.getfield 240, 3) := by decide +kernel
theorem dX3_waiting_29 : decode cX3_waiting 29 = .ok (.bipush 115, 2) := by decide +kernel
theorem dX3_waiting_31 : decode cX3_waiting 31 = .ok (.if_icmp .ne 6, 3) := by decide +kernel
theorem dX3_waiting_34 : decode cX3_waiting 34 = .ok (.iinc 1 1, 3) := by decide +kernel
theorem dX3_waiting_37 : decode cX3_waiting 37 = .ok (.iinc 2 1, 3) := by decide +kernel
theorem dX3_waiting_40 : decode cX3_waiting 40 = .ok (.goto (-36), 3) := by decide +kernel
theorem dX3_waiting_43 : decode cX3_waiting 43 = .ok (.iload_n 1, 1) := by decide +kernel
theorem dX3_waiting_44 : decode cX3_waiting 44 = .ok (.ireturn, 1) := by decide +kernel
theorem dX3_setJam_0 : decode cX3_setJam 0 = .ok (.aload_n 0, 1) := by decide +kernel
theorem dX3_setJam_1 : decode cX3_setJam 1 = .ok (.getfield 244, 3) := by decide +kernel
theorem dX3_setJam_4 : decode cX3_setJam 4 = .ok (.istore_n 2, 1) := by decide +kernel
theorem dX3_setJam_5 : decode cX3_setJam 5 = .ok (.aload_n 0, 1) := by decide +kernel
theorem dX3_setJam_6 : decode cX3_setJam 6 = .ok (.iload_n 1, 1) := by decide +kernel
theorem dX3_setJam_7 : decode cX3_setJam 7 = .ok (.putfield 244, 3) := by decide +kernel
theorem dX3_setJam_10 : decode cX3_setJam 10 = .ok (.iload_n 2, 1) := by decide +kernel
theorem dX3_setJam_11 : decode cX3_setJam 11 = .ok (.ireturn, 1) := by decide +kernel
theorem dX3_print_0 : decode cX3_print 0 = .ok (.aload_n 0, 1) := by decide +kernel
theorem dX3_print_1 : decode cX3_print 1 = .ok (.getfield 244, 3) := by decide +kernel
theorem dX3_print_4 : decode cX3_print 4 = .ok (.ifCond .eq 13, 3) := by decide +kernel
theorem dX3_print_7 : decode cX3_print 7 = .ok (.new 57, 3) := by decide +kernel
theorem dX3_print_10 : decode cX3_print 10 = .ok (.dup, 1) := by decide +kernel
theorem dX3_print_11 : decode cX3_print 11 = .ok (.ldc 247, 2) := by decide +kernel
theorem dX3_print_13 : decode cX3_print 13 = .ok (.invokespecial 61, 3) := by decide +kernel
theorem dX3_print_16 : decode cX3_print 16 = .ok (.athrow, 1) := by decide +kernel
theorem dX3_print_17 : decode cX3_print 17 = .ok (.aload_n 0, 1) := by decide +kernel
theorem dX3_print_18 : decode cX3_print 18 = .ok (.invokevirtual 249, 3) := by decide +kernel
theorem dX3_print_21 : decode cX3_print 21 = .ok (.istore_n 1, 1) := by decide +kernel
theorem dX3_print_22 : decode cX3_print 22 = .ok (.iload_n 1, 1) := by decide +kernel
theorem dX3_print_23 : decode cX3_print 23 = .ok (.ifCond .lt 14, 3) := by decide +kernel
theorem dX3_print_26 : decode cX3_print 26 = .ok (.iload_n 1, 1) := by decide +kernel
theorem dX3_print_27 : decode cX3_print 27 = .ok (.aload_n 0, 1) := by decide +kernel
theorem dX3_print_28 : decode cX3_print 28 = .ok (.getfield 26, 3) := by decide +kernel
theorem dX3_print_31 : decode cX3_print 31 = .ok (.invokevirtual 69, 3) := by decide +kernel
theorem dX3_print_34 : decode cX3_print 34 = .ok (.if_icmp .lt 13, 3) := by decide +kernel
theorem dX3_print_37 : decode cX3_print 37 = .ok (.new 113, 3) := by decide +kernel
theorem dX3_print_40 : decode cX3_print 40 = .ok (.dup, 1) := by decide +kernel
theorem dX3_print_41 : decode cX3_print 41 = .ok (.ldc 252, 2) := by decide +kernel
theorem dX3_print_43 : decode cX3_print 43 = .ok (.invokespecial 115, 3) := by decide +kernel
theorem dX3_print_46 : decode cX3_print 46 = .ok (.athrow, 1) := by decide +kernel
theorem dX3_print_47 : decode cX3_print 47 = .ok (.aload_n 0, 1) := by decide +kernel
theorem dX3_print_48 : decode cX3_print 48 = .ok (.getfield 26, 3) := by decide +kernel
theorem dX3_print_51 : decode cX3_print 51 = .ok (.iload_n 1, 1) := by decide +kernel
theorem dX3_print_52 : decode cX3_print 52 = .ok (.invokevirtual 132, 3) := by decide +kernel
theorem dX3_print_55 : decode cX3_print 55 = .ok (.checkcast 217, 3) := by decide +kernel
theorem dX3_print_58 : decode cX3_print 58 = .ok (.astore_n 2, 1) := by decide +kernel
theorem dX3_print_59 : decode cX3_print 59 = .ok (.aload_n 2, 1) := by decide +kernel
theorem dX3_print_60 : decode cX3_print 60 = .ok (.bipush 112, 2) := by decide +kernel
theorem dX3_print_62 : decode cX3_print 62 = .ok (.putfield 240, 3) := by decide +kernel
theorem dX3_print_65 : decode cX3_print 65 = .ok (.iconst 0, 1) := by decide +kernel
theorem dX3_print_66 : decode cX3_print 66 = .ok (.istore_n 3, 1) := by decide +kernel
theorem dX3_print_67 : decode cX3_print 67 = .ok (.iload_n 3, 1) := by decide +kernel
theorem dX3_print_68 : decode cX3_print 68 = .ok (.aload_n 2, 1) := by decide +kernel
theorem dX3_print_69 : decode cX3_print 69 = .ok (.getfield 239, 3) := by decide +kernel
theorem dX3_print_72 : decode cX3_print 72 = .ok (.invokevirtual 69, 3) := by decide +kernel
theorem dX3_print_75 : decode cX3_print 75 = .ok (.if_icmp .ge 37, 3) := by decide +kernel
theorem dX3_print_78 : decode cX3_print 78 = .ok (.aload_n 2, 1) := by decide +kernel
theorem dX3_print_79 : decode cX3_print 79 = .ok (.getfield 239, 3) := by decide +kernel
theorem dX3_print_82 : decode cX3_print 82 = .ok (.iload_n 3, 1) := by decide +kernel
theorem dX3_print_83 : decode cX3_print 83 = .ok (.invokevirtual 132, 3) := by decide +kernel
theorem dX3_print_86 : decode cX3_print 86 = .ok (.checkcast 75, 3) := by decide +kernel
theorem dX3_print_89 : decode cX3_print 89 = .ok (.astore 4, 2) := by decide +kernel
theorem dX3_print_91 : decode cX3_print 91 = .ok (.aload 4, 2) := by decide +kernel
theorem dX3_print_93 : decode cX3_print 93 = .ok (.iconst 0, 1) := by decide +kernel
theorem dX3_print_94 : decode cX3_print 94 = .ok (.putfield 254, 3) := by decide +kernel
theorem dX3_print_97 : decode cX3_print 97 = .ok (.aload 4, 2) := by decide +kernel
theorem dX3_print_99 : decode cX3_print 99 = .ok (.aload_n 0, 1) := by decide +kernel
theorem dX3_print_100 : decode cX3_print 100 = .ok (.getfield 155, 3) := by decide +kernel
theorem dX3_print_103 : decode cX3_print 103 = .ok (.putfield 257, 3) := by decide +kernel
theorem dX3_print_106 : decode cX3_print 106 = .ok (.iinc 3 1, 3) := by decide +kernel
theorem dX3_print_109 : decode cX3_print 109 = .ok (.goto (-42), 3) := by decide +kernel
theorem dX3_print_112 : decode cX3_print 112 = .ok (.aload_n 0, 1) := by decide +kernel
theorem dX3_print_113 : decode cX3_print 113 = .ok (.invokevirtual 90, 3) := by decide +kernel
theorem dX3_print_116 : decode cX3_print 116 = .ok (.iload_n 1, 1) := by decide +kernel
theorem dX3_print_117 : decode cX3_print 117 = .ok (.ireturn, 1) := by decide +kernel
theorem dX3_cancel_0 : decode cX3_cancel 0 = .ok (.aload_n 0, 1) := by decide +kernel
theorem dX3_cancel_1 : decode cX3_cancel 1 = .ok (.iload_n 1, 1) := by decide +kernel
theorem dX3_cancel_2 : decode cX3_cancel 2 = .ok (.invokevirtual 235, 3) := by decide +kernel
theorem dX3_cancel_5 : decode cX3_cancel 5 = .ok (.astore_n 2, 1) := by decide +kernel
theorem dX3_cancel_6 : decode cX3_cancel 6 = .ok (.aload_n 2, 1) := by decide +kernel
theorem dX3_cancel_7 : decode cX3_cancel 7 = .ok (.getfield 240, 3) := by decide +kernel
theorem dX3_cancel_10 : decode cX3_cancel 10 = .ok (.bipush 115, 2) := by decide +kernel
theorem dX3_cancel_12 : decode cX3_cancel 12 = .ok (.if_icmp .eq 14, 3) := by decide +kernel
theorem dX3_cancel_15 : decode cX3_cancel 15 = .ok (.new 64, 3) := by decide +kernel
theorem dX3_cancel_18 : decode cX3_cancel 18 = .ok (.dup, 1) := by decide +kernel
theorem dX3_cancel_19 : decode cX3_cancel 19 = .ok (.ldc_w 260, 3) := by decide +kernel
theorem dX3_cancel_22 : decode cX3_cancel 22 = .ok (.invokespecial 68, 3) := by decide +kernel
theorem dX3_cancel_25 : decode cX3_cancel 25 = .ok (.athrow, 1) := by decide +kernel
theorem dX3_cancel_26 : decode cX3_cancel 26 = .ok (.aload_n 2, 1) := by decide +kernel
theorem dX3_cancel_27 : decode cX3_cancel 27 = .ok (.bipush 99, 2) := by decide +kernel
theorem dX3_cancel_29 : decode cX3_cancel 29 = .ok (.putfield 240, 3) := by decide +kernel
theorem dX3_cancel_32 : decode cX3_cancel 32 = .ok (.iconst 0, 1) := by decide +kernel
theorem dX3_cancel_33 : decode cX3_cancel 33 = .ok (.istore_n 3, 1) := by decide +kernel
theorem dX3_cancel_34 : decode cX3_cancel 34 = .ok (.iload_n 3, 1) := by decide +kernel
theorem dX3_cancel_35 : decode cX3_cancel 35 = .ok (.aload_n 2, 1) := by decide +kernel
theorem dX3_cancel_36 : decode cX3_cancel 36 = .ok (.getfield 239, 3) := by decide +kernel
theorem dX3_cancel_39 : decode cX3_cancel 39 = .ok (.invokevirtual 69, 3) := by decide +kernel
theorem dX3_cancel_42 : decode cX3_cancel 42 = .ok (.if_icmp .ge 24, 3) := by decide +kernel
theorem dX3_cancel_45 : decode cX3_cancel 45 = .ok (.aload_n 2, 1) := by decide +kernel
theorem dX3_cancel_46 : decode cX3_cancel 46 = .ok (.getfield 239, 3) := by decide +kernel
theorem dX3_cancel_49 : decode cX3_cancel 49 = .ok (.iload_n 3, 1) := by decide +kernel
theorem dX3_cancel_50 : decode cX3_cancel 50 = .ok (.invokevirtual 132, 3) := by decide +kernel
theorem dX3_cancel_53 : decode cX3_cancel 53 = .ok (.checkcast 75, 3) := by decide +kernel
theorem dX3_cancel_56 : decode cX3_cancel 56 = .ok (.iconst 0, 1) := by decide +kernel
theorem dX3_cancel_57 : decode cX3_cancel 57 = .ok (.putfield 254, 3) := by decide +kernel
theorem dX3_cancel_60 : decode cX3_cancel 60 = .ok (.iinc 3 1, 3) := by decide +kernel
theorem dX3_cancel_63 : decode cX3_cancel 63 = .ok (.goto (-29), 3) := by decide +kernel
theorem dX3_cancel_66 : decode cX3_cancel 66 = .ok (.aload_n 0, 1) := by decide +kernel
theorem dX3_cancel_67 : decode cX3_cancel 67 = .ok (.invokevirtual 90, 3) := by decide +kernel
theorem dX3_cancel_70 : decode cX3_cancel 70 = .ok (.aload_n 2, 1) := by decide +kernel
theorem dX3_cancel_71 : decode cX3_cancel 71 = .ok (.getfield 239, 3) := by decide +kernel
theorem dX3_cancel_74 : decode cX3_cancel 74 = .ok (.invokevirtual 69, 3) := by decide +kernel
theorem dX3_cancel_77 : decode cX3_cancel 77 = .ok (.ireturn, 1) := by decide +kernel
theorem dX3_answer_0 : decode cX3_answer 0 = .ok (.aload_n 0, 1) := by decide +kernel
theorem dX3_answer_1 : decode cX3_answer 1 = .ok (.iload_n 1, 1) := by decide +kernel
theorem dX3_answer_2 : decode cX3_answer 2 = .ok (.invokevirtual 235, 3) := by decide +kernel
theorem dX3_answer_5 : decode cX3_answer 5 = .ok (.astore 4, 2) := by decide +kernel
theorem dX3_answer_7 : decode cX3_answer 7 = .ok (.aload 4, 2) := by decide +kernel
theorem dX3_answer_9 : decode cX3_answer 9 = .ok (.getfield 240, 3) := by decide +kernel
theorem dX3_answer_12 : decode cX3_answer 12 = .ok (.bipush 112, 2) := by decide +kernel
theorem dX3_answer_14 : decode cX3_answer 14 = .ok (.if_icmp .eq 14, 3) := by decide +kernel
theorem dX3_answer_17 : decode cX3_answer 17 = .ok (.new 64, 3) := by decide +kernel
theorem dX3_answer_20 : decode cX3_answer 20 = .ok (.dup, 1) := by decide +kernel
theorem dX3_answer_21 : decode cX3_answer 21 = .ok (.ldc_w 262, 3) := by decide +kernel
theorem dX3_answer_24 : decode cX3_answer 24 = .ok (.invokespecial 68, 3) := by decide +kernel
theorem dX3_answer_27 : decode cX3_answer 27 = .ok (.athrow, 1) := by decide +kernel
theorem dX3_answer_28 : decode cX3_answer 28 = .ok (.aload 4, 2) := by decide +kernel
theorem dX3_answer_30 : decode cX3_answer 30 = .ok (.getfield 239, 3) := by decide +kernel
theorem dX3_answer_33 : decode cX3_answer 33 = .ok (.iload_n 2, 1) := by decide +kernel
theorem dX3_answer_34 : decode cX3_answer 34 = .ok (.invokestatic 190, 3) := by decide +kernel
theorem dX3_answer_37 : decode cX3_answer 37 = .ok (.astore 5, 2) := by decide +kernel
theorem dX3_answer_39 : decode cX3_answer 39 = .ok (.aload 4, 2) := by decide +kernel
theorem dX3_answer_41 : decode cX3_answer 41 = .ok (.iload_n 2, 1) := by decide +kernel
theorem dX3_answer_42 : decode cX3_answer 42 = .ok (.invokevirtual 264, 3) := by decide +kernel
theorem dX3_answer_45 : decode cX3_answer 45 = .ok (.ifCond .ne 14, 3) := by decide +kernel
theorem dX3_answer_48 : decode cX3_answer 48 = .ok (.new 113, 3) := by decide +kernel
theorem dX3_answer_51 : decode cX3_answer 51 = .ok (.dup, 1) := by decide +kernel
theorem dX3_answer_52 : decode cX3_answer 52 = .ok (.ldc_w 268, 3) := by decide +kernel
theorem dX3_answer_55 : decode cX3_answer 55 = .ok (.invokespecial 115, 3) := by decide +kernel
theorem dX3_answer_58 : decode cX3_answer 58 = .ok (.athrow, 1) := by decide +kernel
theorem dX3_answer_59 : decode cX3_answer 59 = .ok (.aload 5, 2) := by decide +kernel
theorem dX3_answer_61 : decode cX3_answer 61 = .ok (.iload_n 3, 1) := by decide +kernel
theorem dX3_answer_62 : decode cX3_answer 62 = .ok (.invokevirtual 270, 3) := by decide +kernel
theorem dX3_answer_65 : decode cX3_answer 65 = .ok (.aload_n 0, 1) := by decide +kernel
theorem dX3_answer_66 : decode cX3_answer 66 = .ok (.dup, 1) := by decide +kernel
theorem dX3_answer_67 : decode cX3_answer 67 = .ok (.getfield 274, 3) := by decide +kernel
theorem dX3_answer_70 : decode cX3_answer 70 = .ok (.iconst 1, 1) := by decide +kernel
theorem dX3_answer_71 : decode cX3_answer 71 = .ok (.iadd, 1) := by decide +kernel
theorem dX3_answer_72 : decode cX3_answer 72 = .ok (.putfield 274, 3) := by decide +kernel
theorem dX3_answer_75 : decode cX3_answer 75 = .ok (.iload_n 3, 1) := by decide +kernel
theorem dX3_answer_76 : decode cX3_answer 76 = .ok (.ifCond .eq 13, 3) := by decide +kernel
theorem dX3_answer_79 : decode cX3_answer 79 = .ok (.aload_n 0, 1) := by decide +kernel
theorem dX3_answer_80 : decode cX3_answer 80 = .ok (.dup, 1) := by decide +kernel
theorem dX3_answer_81 : decode cX3_answer 81 = .ok (.getfield 277, 3) := by decide +kernel
theorem dX3_answer_84 : decode cX3_answer 84 = .ok (.iconst 1, 1) := by decide +kernel
theorem dX3_answer_85 : decode cX3_answer 85 = .ok (.iadd, 1) := by decide +kernel
theorem dX3_answer_86 : decode cX3_answer 86 = .ok (.putfield 277, 3) := by decide +kernel
theorem dX3_answer_89 : decode cX3_answer 89 = .ok (.aload_n 0, 1) := by decide +kernel
theorem dX3_answer_90 : decode cX3_answer 90 = .ok (.invokevirtual 90, 3) := by decide +kernel
theorem dX3_answer_93 : decode cX3_answer 93 = .ok (.aload 5, 2) := by decide +kernel
theorem dX3_answer_95 : decode cX3_answer 95 = .ok (.getfield 116, 3) := by decide +kernel
theorem dX3_answer_98 : decode cX3_answer 98 = .ok (.ireturn, 1) := by decide +kernel
theorem dX3_textOf_0 : decode cX3_textOf 0 = .ok (.aload_n 0, 1) := by decide +kernel
theorem dX3_textOf_1 : decode cX3_textOf 1 = .ok (.iload_n 1, 1) := by decide +kernel
theorem dX3_textOf_2 : decode cX3_textOf 2 = .ok (.aload_n 0, 1) := by decide +kernel
theorem dX3_textOf_3 : decode cX3_textOf 3 = .ok (.iload_n 1, 1) := by decide +kernel
theorem dX3_textOf_4 : decode cX3_textOf 4 = .ok (.invokevirtual 235, 3) := by decide +kernel
theorem dX3_textOf_7 : decode cX3_textOf 7 = .ok (.invokevirtual 280, 3) := by decide +kernel
theorem dX3_textOf_10 : decode cX3_textOf 10 = .ok (.iload_n 2, 1) := by decide +kernel
theorem dX3_textOf_11 : decode cX3_textOf 11 = .ok (.ifCond .lt 14, 3) := by decide +kernel
theorem dX3_textOf_14 : decode cX3_textOf 14 = .ok (.iload_n 2, 1) := by decide +kernel
theorem dX3_textOf_15 : decode cX3_textOf 15 = .ok (.aload_n 0, 1) := by decide +kernel
theorem dX3_textOf_16 : decode cX3_textOf 16 = .ok (.getfield 38, 3) := by decide +kernel
theorem dX3_textOf_19 : decode cX3_textOf 19 = .ok (.invokevirtual 284, 3) := by decide +kernel
theorem dX3_textOf_22 : decode cX3_textOf 22 = .ok (.if_icmp .lt 14, 3) := by decide +kernel
theorem dX3_textOf_25 : decode cX3_textOf 25 = .ok (.new 113, 3) := by decide +kernel
theorem dX3_textOf_28 : decode cX3_textOf 28 = .ok (.dup, 1) := by decide +kernel
theorem dX3_textOf_29 : decode cX3_textOf 29 = .ok (.ldc_w 287, 3) := by decide +kernel
theorem dX3_textOf_32 : decode cX3_textOf 32 = .ok (.invokespecial 115, 3) := by decide +kernel
theorem dX3_textOf_35 : decode cX3_textOf 35 = .ok (.athrow, 1) := by decide +kernel
theorem dX3_textOf_36 : decode cX3_textOf 36 = .ok (.aload_n 0, 1) := by decide +kernel
theorem dX3_textOf_37 : decode cX3_textOf 37 = .ok (.getfield 38, 3) := by decide +kernel
theorem dX3_textOf_40 : decode cX3_textOf 40 = .ok (.iload_n 2, 1) := by decide +kernel
theorem dX3_textOf_41 : decode cX3_textOf 41 = .ok (.invokevirtual 289, 3) := by decide +kernel
theorem dX3_textOf_44 : decode cX3_textOf 44 = .ok (.ireturn, 1) := by decide +kernel
theorem dX3_answers_0 : decode cX3_answers 0 = .ok (.aload_n 0, 1) := by decide +kernel
theorem dX3_answers_1 : decode cX3_answers 1 = .ok (.getfield 274, 3) := by decide +kernel
theorem dX3_answers_4 : decode cX3_answers 4 = .ok (.ireturn, 1) := by decide +kernel
theorem dX3_allLevels_0 : decode cX3_allLevels 0 = .ok (.lconst 0, 1) := by decide +kernel
theorem dX3_allLevels_1 : decode cX3_allLevels 1 = .ok (.lstore_n 1, 1) := by decide +kernel
theorem dX3_allLevels_2 : decode cX3_allLevels 2 = .ok (.iconst 0, 1) := by decide +kernel
theorem dX3_allLevels_3 : decode cX3_allLevels 3 = .ok (.istore_n 3, 1) := by decide +kernel
theorem dX3_allLevels_4 : decode cX3_allLevels 4 = .ok (.iload_n 3, 1) := by decide +kernel
theorem dX3_allLevels_5 : decode cX3_allLevels 5 = .ok (.aload_n 0, 1) := by decide +kernel
theorem dX3_allLevels_6 : decode cX3_allLevels 6 = .ok (.getfield 16, 3) := by decide +kernel
theorem dX3_allLevels_9 : decode cX3_allLevels 9 = .ok (.invokevirtual 69, 3) := by decide +kernel
theorem dX3_allLevels_12 : decode cX3_allLevels 12 = .ok (.if_icmp .ge 27, 3) := by decide +kernel
theorem dX3_allLevels_15 : decode cX3_allLevels 15 = .ok (.lload_n 1, 1) := by decide +kernel
theorem dX3_allLevels_16 : decode cX3_allLevels 16 = .ok (.aload_n 0, 1) := by decide +kernel
theorem dX3_allLevels_17 : decode cX3_allLevels 17 = .ok (.getfield 16, 3) := by decide +kernel
theorem dX3_allLevels_20 : decode cX3_allLevels 20 = .ok (.iload_n 3, 1) := by decide +kernel
theorem dX3_allLevels_21 : decode cX3_allLevels 21 = .ok (.invokevirtual 132, 3) := by decide +kernel
theorem dX3_allLevels_24 : decode cX3_allLevels 24 = .ok (.checkcast 75, 3) := by decide +kernel
theorem dX3_allLevels_27 : decode cX3_allLevels 27 = .ok (.getfield 116, 3) := by decide +kernel
theorem dX3_allLevels_30 : decode cX3_allLevels 30 = .ok (.i2l, 1) := by decide +kernel
theorem dX3_allLevels_31 : decode cX3_allLevels 31 = .ok (.ladd, 1) := by decide +kernel
theorem dX3_allLevels_32 : decode cX3_allLevels 32 = .ok (.lstore_n 1, 1) := by decide +kernel
theorem dX3_allLevels_33 : decode cX3_allLevels 33 = .ok (.iinc 3 1, 3) := by decide +kernel
theorem dX3_allLevels_36 : decode cX3_allLevels 36 = .ok (.goto (-32), 3) := by decide +kernel
theorem dX3_allLevels_39 : decode cX3_allLevels 39 = .ok (.lload_n 1, 1) := by decide +kernel
theorem dX3_allLevels_40 : decode cX3_allLevels 40 = .ok (.lreturn, 1) := by decide +kernel
theorem dX3_rightShare_0 : decode cX3_rightShare 0 = .ok (.aload_n 0, 1) := by decide +kernel
theorem dX3_rightShare_1 : decode cX3_rightShare 1 = .ok (.getfield 274, 3) := by decide +kernel
theorem dX3_rightShare_4 : decode cX3_rightShare 4 = .ok (.ifCond .ne 14, 3) := by decide +kernel
theorem dX3_rightShare_7 : decode cX3_rightShare 7 = .ok (.new 293, 3) := by decide +kernel
theorem dX3_rightShare_10 : decode cX3_rightShare 10 = .ok (.dup, 1) := by decide +kernel
theorem dX3_rightShare_11 : decode cX3_rightShare 11 = .ok (.ldc_w 295, 3) := by decide +kernel
theorem dX3_rightShare_14 : decode cX3_rightShare 14 = .ok (.invokespecial 297, 3) := by decide +kernel
theorem dX3_rightShare_17 : decode cX3_rightShare 17 = .ok (.athrow, 1) := by decide +kernel
theorem dX3_rightShare_18 : decode cX3_rightShare 18 = .ok (.aload_n 0, 1) := by decide +kernel
theorem dX3_rightShare_19 : decode cX3_rightShare 19 = .ok (.getfield 277, 3) := by decide +kernel
theorem dX3_rightShare_22 : decode cX3_rightShare 22 = .ok (.i2f, 1) := by decide +kernel
theorem dX3_rightShare_23 : decode cX3_rightShare 23 = .ok (.aload_n 0, 1) := by decide +kernel
theorem dX3_rightShare_24 : decode cX3_rightShare 24 = .ok (.getfield 274, 3) := by decide +kernel
theorem dX3_rightShare_27 : decode cX3_rightShare 27 = .ok (.i2f, 1) := by decide +kernel
theorem dX3_rightShare_28 : decode cX3_rightShare 28 = .ok (.fdiv, 1) := by decide +kernel
theorem dX3_rightShare_29 : decode cX3_rightShare 29 = .ok (.freturn, 1) := by decide +kernel
theorem dX3_meanLevel_0 : decode cX3_meanLevel 0 = .ok (.aload_n 0, 1) := by decide +kernel
theorem dX3_meanLevel_1 : decode cX3_meanLevel 1 = .ok (.getfield 16, 3) := by decide +kernel
theorem dX3_meanLevel_4 : decode cX3_meanLevel 4 = .ok (.invokevirtual 229, 3) := by decide +kernel
theorem dX3_meanLevel_7 : decode cX3_meanLevel 7 = .ok (.ifCond .eq 14, 3) := by decide +kernel
theorem dX3_meanLevel_10 : decode cX3_meanLevel 10 = .ok (.new 293, 3) := by decide +kernel
theorem dX3_meanLevel_13 : decode cX3_meanLevel 13 = .ok (.dup, 1) := by decide +kernel
theorem dX3_meanLevel_14 : decode cX3_meanLevel 14 = .ok (.ldc_w 298, 3) := by decide +kernel
theorem dX3_meanLevel_17 : decode cX3_meanLevel 17 = .ok (.invokespecial 297, 3) := by decide +kernel
theorem dX3_meanLevel_20 : decode cX3_meanLevel 20 = .ok (.athrow, 1) := by decide +kernel
theorem dX3_meanLevel_21 : decode cX3_meanLevel 21 = .ok (.aload_n 0, 1) := by decide +kernel
theorem dX3_meanLevel_22 : decode cX3_meanLevel 22 = .ok (.invokevirtual 300, 3) := by decide +kernel
theorem dX3_meanLevel_25 : decode cX3_meanLevel 25 = .ok (.l2d, 1) := by decide +kernel
theorem dX3_meanLevel_26 : decode cX3_meanLevel 26 = .ok (.aload_n 0, 1) := by decide +kernel
theorem dX3_meanLevel_27 : decode cX3_meanLevel 27 = .ok (.getfield 16, 3) := by decide +kernel
theorem dX3_meanLevel_30 : decode cX3_meanLevel 30 = .ok (.invokevirtual 69, 3) := by decide +kernel
theorem dX3_meanLevel_33 : decode cX3_meanLevel 33 = .ok (.i2d, 1) := by decide +kernel
theorem dX3_meanLevel_34 : decode cX3_meanLevel 34 = .ok (.ddiv, 1) := by decide +kernel
theorem dX3_meanLevel_35 : decode cX3_meanLevel 35 = .ok (.dreturn, 1) := by decide +kernel
theorem dX3_isSound_0 : decode cX3_isSound 0 = .ok (.aload_n 0, 1) := by decide +kernel
theorem dX3_isSound_1 : decode cX3_isSound 1 = .ok (.invokevirtual 304, 3) := by decide +kernel
theorem dX3_isSound_4 : decode cX3_isSound 4 = .ok (.ifCond .eq 21, 3) := by decide +kernel
theorem dX3_isSound_7 : decode cX3_isSound 7 = .ok (.aload_n 0, 1) := by decide +kernel
theorem dX3_isSound_8 : decode cX3_isSound 8 = .ok (.invokevirtual 307, 3) := by decide +kernel
theorem dX3_isSound_11 : decode cX3_isSound 11 = .ok (.ifCond .eq 14, 3) := by decide +kernel
theorem dX3_isSound_14 : decode cX3_isSound 14 = .ok (.aload_n 0, 1) := by decide +kernel
theorem dX3_isSound_15 : decode cX3_isSound 15 = .ok (.invokevirtual 310, 3) := by decide +kernel
theorem dX3_isSound_18 : decode cX3_isSound 18 = .ok (.ifCond .eq 7, 3) := by decide +kernel
theorem dX3_isSound_21 : decode cX3_isSound 21 = .ok (.iconst 1, 1) := by decide +kernel
theorem dX3_isSound_22 : decode cX3_isSound 22 = .ok (.goto 4, 3) := by decide +kernel
theorem dX3_isSound_25 : decode cX3_isSound 25 = .ok (.iconst 0, 1) := by decide +kernel
theorem dX3_isSound_26 : decode cX3_isSound 26 = .ok (.ireturn, 1) := by decide +kernel
theorem dX3_isOutside_0 : decode cX3_isOutside 0 = .ok (.iload_n 0, 1) := by decide +kernel
theorem dX3_isOutside_1 : decode cX3_isOutside 1 = .ok (.iload_n 1, 1) := by decide +kernel
theorem dX3_isOutside_2 : decode cX3_isOutside 2 = .ok (.if_icmp .lt 8, 3) := by decide +kernel
theorem dX3_isOutside_5 : decode cX3_isOutside 5 = .ok (.iload_n 0, 1) := by decide +kernel
theorem dX3_isOutside_6 : decode cX3_isOutside 6 = .ok (.iload_n 2, 1) := by decide +kernel
theorem dX3_isOutside_7 : decode cX3_isOutside 7 = .ok (.if_icmp .le 7, 3) := by decide +kernel
theorem dX3_isOutside_10 : decode cX3_isOutside 10 = .ok (.iconst 1, 1) := by decide +kernel
theorem dX3_isOutside_11 : decode cX3_isOutside 11 = .ok (.goto 4, 3) := by decide +kernel
theorem dX3_isOutside_14 : decode cX3_isOutside 14 = .ok (.iconst 0, 1) := by decide +kernel
theorem dX3_isOutside_15 : decode cX3_isOutside 15 = .ok (.ireturn, 1) := by decide +kernel
theorem dX3_questionOf_0 : decode cX3_questionOf 0 = .ok (.iload_n 1, 1) := by decide +kernel
theorem dX3_questionOf_1 : decode cX3_questionOf 1 = .ok (.ifCond .lt 14, 3) := by decide +kernel
theorem dX3_questionOf_4 : decode cX3_questionOf 4 = .ok (.iload_n 1, 1) := by decide +kernel
theorem dX3_questionOf_5 : decode cX3_questionOf 5 = .ok (.aload_n 0, 1) := by decide +kernel
theorem dX3_questionOf_6 : decode cX3_questionOf 6 = .ok (.getfield 16, 3) := by decide +kernel
theorem dX3_questionOf_9 : decode cX3_questionOf 9 = .ok (.invokevirtual 69, 3) := by decide +kernel
theorem dX3_questionOf_12 : decode cX3_questionOf 12 = .ok (.if_icmp .lt 14, 3) := by decide +kernel
theorem dX3_questionOf_15 : decode cX3_questionOf 15 = .ok (.new 313, 3) := by decide +kernel
theorem dX3_questionOf_18 : decode cX3_questionOf 18 = .ok (.dup, 1) := by decide +kernel
theorem dX3_questionOf_19 : decode cX3_questionOf 19 = .ok (.ldc_w 315, 3) := by decide +kernel
theorem dX3_questionOf_22 : decode cX3_questionOf 22 = .ok (.invokespecial 317, 3) := by decide +kernel
theorem dX3_questionOf_25 : decode cX3_questionOf 25 = .ok (.athrow, 1) := by decide +kernel
theorem dX3_questionOf_26 : decode cX3_questionOf 26 = .ok (.aload_n 0, 1) := by decide +kernel
theorem dX3_questionOf_27 : decode cX3_questionOf 27 = .ok (.getfield 16, 3) := by decide +kernel
theorem dX3_questionOf_30 : decode cX3_questionOf 30 = .ok (.iload_n 1, 1) := by decide +kernel
theorem dX3_questionOf_31 : decode cX3_questionOf 31 = .ok (.invokevirtual 132, 3) := by decide +kernel
theorem dX3_questionOf_34 : decode cX3_questionOf 34 = .ok (.checkcast 75, 3) := by decide +kernel
theorem dX3_questionOf_37 : decode cX3_questionOf 37 = .ok (.areturn, 1) := by decide +kernel
theorem dX3_planOf_0 : decode cX3_planOf 0 = .ok (.iload_n 1, 1) := by decide +kernel
theorem dX3_planOf_1 : decode cX3_planOf 1 = .ok (.ifCond .lt 14, 3) := by decide +kernel
theorem dX3_planOf_4 : decode cX3_planOf 4 = .ok (.iload_n 1, 1) := by decide +kernel
theorem dX3_planOf_5 : decode cX3_planOf 5 = .ok (.aload_n 0, 1) := by decide +kernel
theorem dX3_planOf_6 : decode cX3_planOf 6 = .ok (.getfield 23, 3) := by decide +kernel
theorem dX3_planOf_9 : decode cX3_planOf 9 = .ok (.invokevirtual 69, 3) := by decide +kernel
theorem dX3_planOf_12 : decode cX3_planOf 12 = .ok (.if_icmp .lt 14, 3) := by decide +kernel
theorem dX3_planOf_15 : decode cX3_planOf 15 = .ok (.new 313, 3) := by decide +kernel
theorem dX3_planOf_18 : decode cX3_planOf 18 = .ok (.dup, 1) := by decide +kernel
theorem dX3_planOf_19 : decode cX3_planOf 19 = .ok (.ldc_w 318, 3) := by decide +kernel
theorem dX3_planOf_22 : decode cX3_planOf 22 = .ok (.invokespecial 317, 3) := by decide +kernel
theorem dX3_planOf_25 : decode cX3_planOf 25 = .ok (.athrow, 1) := by decide +kernel
theorem dX3_planOf_26 : decode cX3_planOf 26 = .ok (.aload_n 0, 1) := by decide +kernel
theorem dX3_planOf_27 : decode cX3_planOf 27 = .ok (.getfield 23, 3) := by decide +kernel
theorem dX3_planOf_30 : decode cX3_planOf 30 = .ok (.iload_n 1, 1) := by decide +kernel
theorem dX3_planOf_31 : decode cX3_planOf 31 = .ok (.invokevirtual 132, 3) := by decide +kernel
theorem dX3_planOf_34 : decode cX3_planOf 34 = .ok (.checkcast 168, 3) := by decide +kernel
theorem dX3_planOf_37 : decode cX3_planOf 37 = .ok (.areturn, 1) := by decide +kernel
theorem dX3_sheetOf_0 : decode cX3_sheetOf 0 = .ok (.iload_n 1, 1) := by decide +kernel
theorem dX3_sheetOf_1 : decode cX3_sheetOf 1 = .ok (.ifCond .lt 14, 3) := by decide +kernel
theorem dX3_sheetOf_4 : decode cX3_sheetOf 4 = .ok (.iload_n 1, 1) := by decide +kernel
theorem dX3_sheetOf_5 : decode cX3_sheetOf 5 = .ok (.aload_n 0, 1) := by decide +kernel
theorem dX3_sheetOf_6 : decode cX3_sheetOf 6 = .ok (.getfield 26, 3) := by decide +kernel
theorem dX3_sheetOf_9 : decode cX3_sheetOf 9 = .ok (.invokevirtual 69, 3) := by decide +kernel
theorem dX3_sheetOf_12 : decode cX3_sheetOf 12 = .ok (.if_icmp .lt 14, 3) := by decide +kernel
theorem dX3_sheetOf_15 : decode cX3_sheetOf 15 = .ok (.new 313, 3) := by decide +kernel
theorem dX3_sheetOf_18 : decode cX3_sheetOf 18 = .ok (.dup, 1) := by decide +kernel
theorem dX3_sheetOf_19 : decode cX3_sheetOf 19 = .ok (.ldc_w 320, 3) := by decide +kernel
theorem dX3_sheetOf_22 : decode cX3_sheetOf 22 = .ok (.invokespecial 317, 3) := by decide +kernel
theorem dX3_sheetOf_25 : decode cX3_sheetOf 25 = .ok (.athrow, 1) := by decide +kernel
theorem dX3_sheetOf_26 : decode cX3_sheetOf 26 = .ok (.aload_n 0, 1) := by decide +kernel
theorem dX3_sheetOf_27 : decode cX3_sheetOf 27 = .ok (.getfield 26, 3) := by decide +kernel
theorem dX3_sheetOf_30 : decode cX3_sheetOf 30 = .ok (.iload_n 1, 1) := by decide +kernel
theorem dX3_sheetOf_31 : decode cX3_sheetOf 31 = .ok (.invokevirtual 132, 3) := by decide +kernel
theorem dX3_sheetOf_34 : decode cX3_sheetOf 34 = .ok (.checkcast 217, 3) := by decide +kernel
theorem dX3_sheetOf_37 : decode cX3_sheetOf 37 = .ok (.areturn, 1) := by decide +kernel
theorem dX3_hitOf_0 : decode cX3_hitOf 0 = .ok (.aload_n 0, 1) := by decide +kernel
theorem dX3_hitOf_1 : decode cX3_hitOf 1 = .ok (.getfield 20, 3) := by decide +kernel
theorem dX3_hitOf_4 : decode cX3_hitOf 4 = .ok (.iload_n 1, 1) := by decide +kernel
theorem dX3_hitOf_5 : decode cX3_hitOf 5 = .ok (.invokestatic 190, 3) := by decide +kernel
theorem dX3_hitOf_8 : decode cX3_hitOf 8 = .ok (.areturn, 1) := by decide +kernel
theorem dX3_elementOf_0 : decode cX3_elementOf 0 = .ok (.iload_n 1, 1) := by decide +kernel
theorem dX3_elementOf_1 : decode cX3_elementOf 1 = .ok (.ifCond .lt 11, 3) := by decide +kernel
theorem dX3_elementOf_4 : decode cX3_elementOf 4 = .ok (.iload_n 1, 1) := by decide +kernel
theorem dX3_elementOf_5 : decode cX3_elementOf 5 = .ok (.aload_n 0, 1) := by decide +kernel
theorem dX3_elementOf_6 : decode cX3_elementOf 6 = .ok (.invokevirtual 69, 3) := by decide +kernel
theorem dX3_elementOf_9 : decode cX3_elementOf 9 = .ok (.if_icmp .lt 14, 3) := by decide +kernel
theorem dX3_elementOf_12 : decode cX3_elementOf 12 = .ok (.new 113, 3) := by decide +kernel
theorem dX3_elementOf_15 : decode cX3_elementOf 15 = .ok (.dup, 1) := by decide +kernel
theorem dX3_elementOf_16 : decode cX3_elementOf 16 = .ok (.ldc_w 322, 3) := by decide +kernel
theorem dX3_elementOf_19 : decode cX3_elementOf 19 = .ok (.invokespecial 115, 3) := by decide +kernel
theorem dX3_elementOf_22 : decode cX3_elementOf 22 = .ok (.athrow, 1) := by decide +kernel
theorem dX3_elementOf_23 : decode cX3_elementOf 23 = .ok (.aload_n 0, 1) := by decide +kernel
theorem dX3_elementOf_24 : decode cX3_elementOf 24 = .ok (.iload_n 1, 1) := by decide +kernel
theorem dX3_elementOf_25 : decode cX3_elementOf 25 = .ok (.invokevirtual 132, 3) := by decide +kernel
theorem dX3_elementOf_28 : decode cX3_elementOf 28 = .ok (.checkcast 75, 3) := by decide +kernel
theorem dX3_elementOf_31 : decode cX3_elementOf 31 = .ok (.areturn, 1) := by decide +kernel
theorem dX3_wordsOfRow_0 : decode cX3_wordsOfRow 0 = .ok (.iconst 0, 1) := by decide +kernel
theorem dX3_wordsOfRow_1 : decode cX3_wordsOfRow 1 = .ok (.istore_n 1, 1) := by decide +kernel
theorem dX3_wordsOfRow_2 : decode cX3_wordsOfRow 2 = .ok (.iconst 0, 1) := by decide +kernel
theorem dX3_wordsOfRow_3 : decode cX3_wordsOfRow 3 = .ok (.istore_n 2, 1) := by decide +kernel
theorem dX3_wordsOfRow_4 : decode cX3_wordsOfRow 4 = .ok (.iload_n 2, 1) := by decide +kernel
theorem dX3_wordsOfRow_5 : decode cX3_wordsOfRow 5 = .ok (.aload_n 0, 1) := by decide +kernel
theorem dX3_wordsOfRow_6 : decode cX3_wordsOfRow 6 = .ok (.getfield 53, 3) := by decide +kernel
theorem dX3_wordsOfRow_9 : decode cX3_wordsOfRow 9 = .ok (.if_icmp .ge 26, 3) := by decide +kernel
theorem dX3_wordsOfRow_12 : decode cX3_wordsOfRow 12 = .ok (.iload_n 2, 1) := by decide +kernel
theorem dX3_wordsOfRow_13 : decode cX3_wordsOfRow 13 = .ok (.bipush 6, 2) := by decide +kernel
theorem dX3_wordsOfRow_15 : decode cX3_wordsOfRow 15 = .ok (.if_icmp .ge 20, 3) := by decide +kernel
theorem dX3_wordsOfRow_18 : decode cX3_wordsOfRow 18 = .ok (.iload_n 1, 1) := by decide +kernel
theorem dX3_wordsOfRow_19 : decode cX3_wordsOfRow 19 = .ok (.iconst 1, 1) := by decide +kernel
theorem dX3_wordsOfRow_20 : decode cX3_wordsOfRow 20 = .ok (.aload_n 0, 1) := by decide +kernel
theorem dX3_wordsOfRow_21 : decode cX3_wordsOfRow 21 = .ok (.getfield 9, 3) := by decide +kernel
theorem dX3_wordsOfRow_24 : decode cX3_wordsOfRow 24 = .ok (.iload_n 2, 1) := by decide +kernel
theorem dX3_wordsOfRow_25 : decode cX3_wordsOfRow 25 = .ok (.iaload, 1) := by decide +kernel
theorem dX3_wordsOfRow_26 : decode cX3_wordsOfRow 26 = .ok (.ishl, 1) := by decide +kernel
theorem dX3_wordsOfRow_27 : decode cX3_wordsOfRow 27 = .ok (.ior, 1) := by decide +kernel
theorem dX3_wordsOfRow_28 : decode cX3_wordsOfRow 28 = .ok (.istore_n 1, 1) := by decide +kernel
theorem dX3_wordsOfRow_29 : decode cX3_wordsOfRow 29 = .ok (.iinc 2 1, 3) := by decide +kernel
theorem dX3_wordsOfRow_32 : decode cX3_wordsOfRow 32 = .ok (.goto (-28), 3) := by decide +kernel
theorem dX3_wordsOfRow_35 : decode cX3_wordsOfRow 35 = .ok (.iload_n 1, 1) := by decide +kernel
theorem dX3_wordsOfRow_36 : decode cX3_wordsOfRow 36 = .ok (.ireturn, 1) := by decide +kernel
theorem dX3_placeAmongHits_0 : decode cX3_placeAmongHits 0 = .ok (.iconst 0, 1) := by decide +kernel
theorem dX3_placeAmongHits_1 : decode cX3_placeAmongHits 1 = .ok (.istore_n 2, 1) := by decide +kernel
theorem dX3_placeAmongHits_2 : decode cX3_placeAmongHits 2 = .ok (.iload_n 2, 1) := by decide +kernel
theorem dX3_placeAmongHits_3 : decode cX3_placeAmongHits 3 = .ok (.aload_n 0, 1) := by decide +kernel
theorem dX3_placeAmongHits_4 : decode cX3_placeAmongHits 4 = .ok (.getfield 20, 3) := by decide +kernel
theorem dX3_placeAmongHits_7 : decode cX3_placeAmongHits 7 = .ok (.invokevirtual 69, 3) := by decide +kernel
theorem dX3_placeAmongHits_10 : decode cX3_placeAmongHits 10 = .ok (.if_icmp .ge 27, 3) := by decide +kernel
theorem dX3_placeAmongHits_13 : decode cX3_placeAmongHits 13 = .ok (.aload_n 0, 1) := by decide +kernel
theorem dX3_placeAmongHits_14 : decode cX3_placeAmongHits 14 = .ok (.getfield 20, 3) := by decide +kernel
theorem dX3_placeAmongHits_17 : decode cX3_placeAmongHits 17 = .ok (.iload_n 2, 1) := by decide +kernel
theorem dX3_placeAmongHits_18 : decode cX3_placeAmongHits 18 = .ok (.invokevirtual 132, 3) := by decide +kernel
theorem dX3_placeAmongHits_21 : decode cX3_placeAmongHits 21 = .ok (.checkcast 75, 3) := by decide +kernel
theorem dX3_placeAmongHits_24 : decode cX3_placeAmongHits 24 = .ok (.getfield 140, 3) := by decide +kernel
theorem dX3_placeAmongHits_27 : decode cX3_placeAmongHits 27 = .ok (.iload_n 1, 1) := by decide +kernel
theorem dX3_placeAmongHits_28 : decode cX3_placeAmongHits 28 = .ok (.if_icmp .lt 9, 3) := by decide +kernel
theorem dX3_placeAmongHits_31 : decode cX3_placeAmongHits 31 = .ok (.iinc 2 1, 3) := by decide +kernel
theorem dX3_placeAmongHits_34 : decode cX3_placeAmongHits 34 = .ok (.goto (-32), 3) := by decide +kernel
theorem dX3_placeAmongHits_37 : decode cX3_placeAmongHits 37 = .ok (.iload_n 2, 1) := by decide +kernel
theorem dX3_placeAmongHits_38 : decode cX3_placeAmongHits 38 = .ok (.ireturn, 1) := by decide +kernel
theorem dX3_joinFamilies_0 : decode cX3_joinFamilies 0 = .ok (.iconst 0, 1) := by decide +kernel
theorem dX3_joinFamilies_1 : decode cX3_joinFamilies 1 = .ok (.istore_n 3, 1) := by decide +kernel
theorem dX3_joinFamilies_2 : decode cX3_joinFamilies 2 = .ok (.iload_n 3, 1) := by decide +kernel
theorem dX3_joinFamilies_3 : decode cX3_joinFamilies 3 = .ok (.aload_n 0, 1) := by decide +kernel
theorem dX3_joinFamilies_4 : decode cX3_joinFamilies 4 = .ok (.getfield 16, 3) := by decide +kernel
theorem dX3_joinFamilies_7 : decode cX3_joinFamilies 7 = .ok (.invokevirtual 69, 3) := by decide +kernel
theorem dX3_joinFamilies_10 : decode cX3_joinFamilies 10 = .ok (.if_icmp .ge 42, 3) := by decide +kernel
theorem dX3_joinFamilies_13 : decode cX3_joinFamilies 13 = .ok (.aload_n 0, 1) := by decide +kernel
theorem dX3_joinFamilies_14 : decode cX3_joinFamilies 14 = .ok (.getfield 16, 3) := by decide +kernel
theorem dX3_joinFamilies_17 : decode cX3_joinFamilies 17 = .ok (.iload_n 3, 1) := by decide +kernel
theorem dX3_joinFamilies_18 : decode cX3_joinFamilies 18 = .ok (.invokevirtual 132, 3) := by decide +kernel
theorem dX3_joinFamilies_21 : decode cX3_joinFamilies 21 = .ok (.checkcast 75, 3) := by decide +kernel
theorem dX3_joinFamilies_24 : decode cX3_joinFamilies 24 = .ok (.getfield 99, 3) := by decide +kernel
theorem dX3_joinFamilies_27 : decode cX3_joinFamilies 27 = .ok (.iload_n 2, 1) := by decide +kernel
theorem dX3_joinFamilies_28 : decode cX3_joinFamilies 28 = .ok (.if_icmp .ne 18, 3) := by decide +kernel
theorem dX3_joinFamilies_31 : decode cX3_joinFamilies 31 = .ok (.aload_n 0, 1) := by decide +kernel
theorem dX3_joinFamilies_32 : decode cX3_joinFamilies 32 = .ok (.getfield 16, 3) := by decide +kernel
theorem dX3_joinFamilies_35 : decode cX3_joinFamilies 35 = .ok (.iload_n 3, 1) := by decide +kernel
theorem dX3_joinFamilies_36 : decode cX3_joinFamilies 36 = .ok (.invokevirtual 132, 3) := by decide +kernel
theorem dX3_joinFamilies_39 : decode cX3_joinFamilies 39 = .ok (.checkcast 75, 3) := by decide +kernel
theorem dX3_joinFamilies_42 : decode cX3_joinFamilies 42 = .ok (.iload_n 1, 1) := by decide +kernel
theorem dX3_joinFamilies_43 : decode cX3_joinFamilies 43 = .ok (.putfield 99, 3) := by decide +kernel
theorem dX3_joinFamilies_46 : decode cX3_joinFamilies 46 = .ok (.iinc 3 1, 3) := by decide +kernel
theorem dX3_joinFamilies_49 : decode cX3_joinFamilies 49 = .ok (.goto (-47), 3) := by decide +kernel
theorem dX3_joinFamilies_52 : decode cX3_joinFamilies 52 = .ok (.return_, 1) := by decide +kernel
theorem dX3_countTwins_0 : decode cX3_countTwins 0 = .ok (.iconst 0, 1) := by decide +kernel
theorem dX3_countTwins_1 : decode cX3_countTwins 1 = .ok (.istore_n 2, 1) := by decide +kernel
theorem dX3_countTwins_2 : decode cX3_countTwins 2 = .ok (.iconst 0, 1) := by decide +kernel
theorem dX3_countTwins_3 : decode cX3_countTwins 3 = .ok (.istore_n 3, 1) := by decide +kernel
theorem dX3_countTwins_4 : decode cX3_countTwins 4 = .ok (.iload_n 3, 1) := by decide +kernel
theorem dX3_countTwins_5 : decode cX3_countTwins 5 = .ok (.aload_n 0, 1) := by decide +kernel
theorem dX3_countTwins_6 : decode cX3_countTwins 6 = .ok (.getfield 16, 3) := by decide +kernel
theorem dX3_countTwins_9 : decode cX3_countTwins 9 = .ok (.invokevirtual 69, 3) := by decide +kernel
theorem dX3_countTwins_12 : decode cX3_countTwins 12 = .ok (.if_icmp .ge 45, 3) := by decide +kernel
theorem dX3_countTwins_15 : decode cX3_countTwins 15 = .ok (.aload_n 0, 1) := by decide +kernel
theorem dX3_countTwins_16 : decode cX3_countTwins 16 = .ok (.getfield 16, 3) := by decide +kernel
theorem dX3_countTwins_19 : decode cX3_countTwins 19 = .ok (.iload_n 3, 1) := by decide +kernel
theorem dX3_countTwins_20 : decode cX3_countTwins 20 = .ok (.invokevirtual 132, 3) := by decide +kernel
theorem dX3_countTwins_23 : decode cX3_countTwins 23 = .ok (.aload_n 1, 1) := by decide +kernel
theorem dX3_countTwins_24 : decode cX3_countTwins 24 = .ok (.if_acmp .eq 27, 3) := by decide +kernel
theorem dX3_countTwins_27 : decode cX3_countTwins 27 = .ok (.aload_n 0, 1) := by decide +kernel
theorem dX3_countTwins_28 : decode cX3_countTwins 28 = .ok (.getfield 16, 3) := by decide +kernel
theorem dX3_countTwins_31 : decode cX3_countTwins 31 = .ok (.iload_n 3, 1) := by decide +kernel
theorem dX3_countTwins_32 : decode cX3_countTwins 32 = .ok (.invokevirtual 132, 3) := by decide +kernel
theorem dX3_countTwins_35 : decode cX3_countTwins 35 = .ok (.checkcast 75, 3) := by decide +kernel
theorem dX3_countTwins_38 : decode cX3_countTwins 38 = .ok (.getfield 99, 3) := by decide +kernel
theorem dX3_countTwins_41 : decode cX3_countTwins 41 = .ok (.aload_n 1, 1) := by decide +kernel
theorem dX3_countTwins_42 : decode cX3_countTwins 42 = .ok (.getfield 99, 3) := by decide +kernel
theorem dX3_countTwins_45 : decode cX3_countTwins 45 = .ok (.if_icmp .ne 6, 3) := by decide +kernel
theorem dX3_countTwins_48 : decode cX3_countTwins 48 = .ok (.iinc 2 1, 3) := by decide +kernel
theorem dX3_countTwins_51 : decode cX3_countTwins 51 = .ok (.iinc 3 1, 3) := by decide +kernel
theorem dX3_countTwins_54 : decode cX3_countTwins 54 = .ok (.goto (-50), 3) := by decide +kernel
theorem dX3_countTwins_57 : decode cX3_countTwins 57 = .ok (.iload_n 2, 1) := by decide +kernel
theorem dX3_countTwins_58 : decode cX3_countTwins 58 = .ok (.ireturn, 1) := by decide +kernel
theorem dX3_hasRelative_0 : decode cX3_hasRelative 0 = .ok (.iconst 0, 1) := by decide +kernel
theorem dX3_hasRelative_1 : decode cX3_hasRelative 1 = .ok (.istore_n 3, 1) := by decide +kernel
theorem dX3_hasRelative_2 : decode cX3_hasRelative 2 = .ok (.iload_n 3, 1) := by decide +kernel
theorem dX3_hasRelative_3 : decode cX3_hasRelative 3 = .ok (.iload_n 1, 1) := by decide +kernel
theorem dX3_hasRelative_4 : decode cX3_hasRelative 4 = .ok (.if_icmp .ge 37, 3) := by decide +kernel
theorem dX3_hasRelative_7 : decode cX3_hasRelative 7 = .ok (.iload_n 3, 1) := by decide +kernel
theorem dX3_hasRelative_8 : decode cX3_hasRelative 8 = .ok (.aload_n 0, 1) := by decide +kernel
theorem dX3_hasRelative_9 : decode cX3_hasRelative 9 = .ok (.invokevirtual 69, 3) := by decide +kernel
theorem dX3_hasRelative_12 : decode cX3_hasRelative 12 = .ok (.if_icmp .ge 29, 3) := by decide +kernel
theorem dX3_hasRelative_15 : decode cX3_hasRelative 15 = .ok (.aload_n 0, 1) := by decide +kernel
theorem dX3_hasRelative_16 : decode cX3_hasRelative 16 = .ok (.iload_n 3, 1) := by decide +kernel
theorem dX3_hasRelative_17 : decode cX3_hasRelative 17 = .ok (.invokevirtual 132, 3) := by decide +kernel
theorem dX3_hasRelative_20 : decode cX3_hasRelative 20 = .ok (.checkcast 75, 3) := by decide +kernel
theorem dX3_hasRelative_23 : decode cX3_hasRelative 23 = .ok (.getfield 99, 3) := by decide +kernel
theorem dX3_hasRelative_26 : decode cX3_hasRelative 26 = .ok (.aload_n 2, 1) := by decide +kernel
theorem dX3_hasRelative_27 : decode cX3_hasRelative 27 = .ok (.getfield 99, 3) := by decide +kernel
theorem dX3_hasRelative_30 : decode cX3_hasRelative 30 = .ok (.if_icmp .ne 5, 3) := by decide +kernel
theorem dX3_hasRelative_33 : decode cX3_hasRelative 33 = .ok (.iconst 1, 1) := by decide +kernel
theorem dX3_hasRelative_34 : decode cX3_hasRelative 34 = .ok (.ireturn, 1) := by decide +kernel
theorem dX3_hasRelative_35 : decode cX3_hasRelative 35 = .ok (.iinc 3 1, 3) := by decide +kernel
theorem dX3_hasRelative_38 : decode cX3_hasRelative 38 = .ok (.goto (-36), 3) := by decide +kernel
theorem dX3_hasRelative_41 : decode cX3_hasRelative 41 = .ok (.iconst 0, 1) := by decide +kernel
theorem dX3_hasRelative_42 : decode cX3_hasRelative 42 = .ok (.ireturn, 1) := by decide +kernel
theorem dX3_isOpen_0 : decode cX3_isOpen 0 = .ok (.aload_n 1, 1) := by decide +kernel
theorem dX3_isOpen_1 : decode cX3_isOpen 1 = .ok (.getfield 177, 3) := by decide +kernel
theorem dX3_isOpen_4 : decode cX3_isOpen 4 = .ok (.ifCond .ne 18, 3) := by decide +kernel
theorem dX3_isOpen_7 : decode cX3_isOpen 7 = .ok (.aload_n 1, 1) := by decide +kernel
theorem dX3_isOpen_8 : decode cX3_isOpen 8 = .ok (.getfield 226, 3) := by decide +kernel
theorem dX3_isOpen_11 : decode cX3_isOpen 11 = .ok (.aload_n 0, 1) := by decide +kernel
theorem dX3_isOpen_12 : decode cX3_isOpen 12 = .ok (.getfield 155, 3) := by decide +kernel
theorem dX3_isOpen_15 : decode cX3_isOpen 15 = .ok (.if_icmp .lt 7, 3) := by decide +kernel
theorem dX3_isOpen_18 : decode cX3_isOpen 18 = .ok (.iconst 1, 1) := by decide +kernel
theorem dX3_isOpen_19 : decode cX3_isOpen 19 = .ok (.goto 4, 3) := by decide +kernel
theorem dX3_isOpen_22 : decode cX3_isOpen 22 = .ok (.iconst 0, 1) := by decide +kernel
theorem dX3_isOpen_23 : decode cX3_isOpen 23 = .ok (.ireturn, 1) := by decide +kernel
theorem dX3_isAvailable_0 : decode cX3_isAvailable 0 = .ok (.aload_n 1, 1) := by decide +kernel
theorem dX3_isAvailable_1 : decode cX3_isAvailable 1 = .ok (.getfield 254, 3) := by decide +kernel
theorem dX3_isAvailable_4 : decode cX3_isAvailable 4 = .ok (.ifCond .eq 5, 3) := by decide +kernel
theorem dX3_isAvailable_7 : decode cX3_isAvailable 7 = .ok (.iconst 0, 1) := by decide +kernel
theorem dX3_isAvailable_8 : decode cX3_isAvailable 8 = .ok (.ireturn, 1) := by decide +kernel
theorem dX3_isAvailable_9 : decode cX3_isAvailable 9 = .ok (.aload_n 1, 1) := by decide +kernel
theorem dX3_isAvailable_10 : decode cX3_isAvailable 10 = .ok (.getfield 257, 3) := by decide +kernel
theorem dX3_isAvailable_13 : decode cX3_isAvailable 13 = .ok (.iconst (-1), 1) := by decide +kernel
theorem dX3_isAvailable_14 : decode cX3_isAvailable 14 = .ok (.if_icmp .eq 16, 3) := by decide +kernel
theorem dX3_isAvailable_17 : decode cX3_isAvailable 17 = .ok (.aload_n 0, 1) := by decide +kernel
theorem dX3_isAvailable_18 : decode cX3_isAvailable 18 = .ok (.getfield 155, 3) := by decide +kernel
theorem dX3_isAvailable_21 : decode cX3_isAvailable 21 = .ok (.aload_n 1, 1) := by decide +kernel
theorem dX3_isAvailable_22 : decode cX3_isAvailable 22 = .ok (.getfield 257, 3) := by decide +kernel
theorem dX3_isAvailable_25 : decode cX3_isAvailable 25 = .ok (.isub, 1) := by decide +kernel
theorem dX3_isAvailable_26 : decode cX3_isAvailable 26 = .ok (.iconst 2, 1) := by decide +kernel
theorem dX3_isAvailable_27 : decode cX3_isAvailable 27 = .ok (.if_icmp .le 7, 3) := by decide +kernel
theorem dX3_isAvailable_30 : decode cX3_isAvailable 30 = .ok (.iconst 1, 1) := by decide +kernel
theorem dX3_isAvailable_31 : decode cX3_isAvailable 31 = .ok (.goto 4, 3) := by decide +kernel
theorem dX3_isAvailable_34 : decode cX3_isAvailable 34 = .ok (.iconst 0, 1) := by decide +kernel
theorem dX3_isAvailable_35 : decode cX3_isAvailable 35 = .ok (.ireturn, 1) := by decide +kernel
theorem dX3_settlePlans_0 : decode cX3_settlePlans 0 = .ok (.iconst 0, 1) := by decide +kernel
theorem dX3_settlePlans_1 : decode cX3_settlePlans 1 = .ok (.istore_n 1, 1) := by decide +kernel
theorem dX3_settlePlans_2 : decode cX3_settlePlans 2 = .ok (.iload_n 1, 1) := by decide +kernel
theorem dX3_settlePlans_3 : decode cX3_settlePlans 3 = .ok (.aload_n 0, 1) := by decide +kernel
theorem dX3_settlePlans_4 : decode cX3_settlePlans 4 = .ok (.getfield 23, 3) := by decide +kernel
theorem dX3_settlePlans_7 : decode cX3_settlePlans 7 = .ok (.invokevirtual 69, 3) := by decide +kernel
theorem dX3_settlePlans_10 : decode cX3_settlePlans 10 = .ok (.if_icmp .ge 58, 3) := by decide +kernel
theorem dX3_settlePlans_13 : decode cX3_settlePlans 13 = .ok (.aload_n 0, 1) := by decide +kernel
theorem dX3_settlePlans_14 : decode cX3_settlePlans 14 = .ok (.aload_n 0, 1) := by decide +kernel
theorem dX3_settlePlans_15 : decode cX3_settlePlans 15 = .ok (.getfield 23, 3) := by decide +kernel
theorem dX3_settlePlans_18 : decode cX3_settlePlans 18 = .ok (.iload_n 1, 1) := by decide +kernel
theorem dX3_settlePlans_19 : decode cX3_settlePlans 19 = .ok (.invokevirtual 132, 3) := by decide +kernel
theorem dX3_settlePlans_22 : decode cX3_settlePlans 22 = .ok (.checkcast 168, 3) := by decide +kernel
theorem dX3_settlePlans_25 : decode cX3_settlePlans 25 = .ok (.invokevirtual 194, 3) := by decide +kernel
theorem dX3_settlePlans_28 : decode cX3_settlePlans 28 = .ok (.ifCond .eq 20, 3) := by decide +kernel
theorem dX3_settlePlans_31 : decode cX3_settlePlans 31 = .ok (.aload_n 0, 1) := by decide +kernel
theorem dX3_settlePlans_32 : decode cX3_settlePlans 32 = .ok (.getfield 23, 3) := by decide +kernel
theorem dX3_settlePlans_35 : decode cX3_settlePlans 35 = .ok (.iload_n 1, 1) := by decide +kernel
theorem dX3_settlePlans_36 : decode cX3_settlePlans 36 = .ok (.invokevirtual 132, 3) := by decide +kernel
theorem dX3_settlePlans_39 : decode cX3_settlePlans 39 = .ok (.checkcast 168, 3) := by decide +kernel
theorem dX3_settlePlans_42 : decode cX3_settlePlans 42 = .ok (.invokestatic 324, 3) := by decide +kernel
theorem dX3_settlePlans_45 : decode cX3_settlePlans 45 = .ok (.goto 17, 3) := by decide +kernel
theorem dX3_settlePlans_48 : decode cX3_settlePlans 48 = .ok (.aload_n 0, 1) := by decide +kernel
theorem dX3_settlePlans_49 : decode cX3_settlePlans 49 = .ok (.getfield 23, 3) := by decide +kernel
theorem dX3_settlePlans_52 : decode cX3_settlePlans 52 = .ok (.iload_n 1, 1) := by decide +kernel
theorem dX3_settlePlans_53 : decode cX3_settlePlans 53 = .ok (.invokevirtual 132, 3) := by decide +kernel
theorem dX3_settlePlans_56 : decode cX3_settlePlans 56 = .ok (.checkcast 168, 3) := by decide +kernel
theorem dX3_settlePlans_59 : decode cX3_settlePlans 59 = .ok (.invokestatic 327, 3) := by decide +kernel
theorem dX3_settlePlans_62 : decode cX3_settlePlans 62 = .ok (.iinc 1 1, 3) := by decide +kernel
theorem dX3_settlePlans_65 : decode cX3_settlePlans 65 = .ok (.goto (-63), 3) := by decide +kernel
theorem dX3_settlePlans_68 : decode cX3_settlePlans 68 = .ok (.iconst 0, 1) := by decide +kernel
theorem dX3_settlePlans_69 : decode cX3_settlePlans 69 = .ok (.istore_n 1, 1) := by decide +kernel
theorem dX3_settlePlans_70 : decode cX3_settlePlans 70 = .ok (.iload_n 1, 1) := by decide +kernel
theorem dX3_settlePlans_71 : decode cX3_settlePlans 71 = .ok (.aload_n 0, 1) := by decide +kernel
theorem dX3_settlePlans_72 : decode cX3_settlePlans 72 = .ok (.getfield 23, 3) := by decide +kernel
theorem dX3_settlePlans_75 : decode cX3_settlePlans 75 = .ok (.invokevirtual 69, 3) := by decide +kernel
theorem dX3_settlePlans_78 : decode cX3_settlePlans 78 = .ok (.if_icmp .ge 42, 3) := by decide +kernel
theorem dX3_settlePlans_81 : decode cX3_settlePlans 81 = .ok (.aload_n 0, 1) := by decide +kernel
theorem dX3_settlePlans_82 : decode cX3_settlePlans 82 = .ok (.aload_n 0, 1) := by decide +kernel
theorem dX3_settlePlans_83 : decode cX3_settlePlans 83 = .ok (.getfield 23, 3) := by decide +kernel
theorem dX3_settlePlans_86 : decode cX3_settlePlans 86 = .ok (.iload_n 1, 1) := by decide +kernel
theorem dX3_settlePlans_87 : decode cX3_settlePlans 87 = .ok (.invokevirtual 132, 3) := by decide +kernel
theorem dX3_settlePlans_90 : decode cX3_settlePlans 90 = .ok (.checkcast 168, 3) := by decide +kernel
theorem dX3_settlePlans_93 : decode cX3_settlePlans 93 = .ok (.invokevirtual 194, 3) := by decide +kernel
theorem dX3_settlePlans_96 : decode cX3_settlePlans 96 = .ok (.ifCond .eq 18, 3) := by decide +kernel
theorem dX3_settlePlans_99 : decode cX3_settlePlans 99 = .ok (.aload_n 0, 1) := by decide +kernel
theorem dX3_settlePlans_100 : decode cX3_settlePlans 100 = .ok (.aload_n 0, 1) := by decide +kernel
theorem dX3_settlePlans_101 : decode cX3_settlePlans 101 = .ok (.getfield 23, 3) := by decide +kernel
theorem dX3_settlePlans_104 : decode cX3_settlePlans 104 = .ok (.iload_n 1, 1) := by decide +kernel
theorem dX3_settlePlans_105 : decode cX3_settlePlans 105 = .ok (.invokevirtual 132, 3) := by decide +kernel
theorem dX3_settlePlans_108 : decode cX3_settlePlans 108 = .ok (.checkcast 168, 3) := by decide +kernel
theorem dX3_settlePlans_111 : decode cX3_settlePlans 111 = .ok (.invokevirtual 330, 3) := by decide +kernel
theorem dX3_settlePlans_114 : decode cX3_settlePlans 114 = .ok (.iinc 1 1, 3) := by decide +kernel
theorem dX3_settlePlans_117 : decode cX3_settlePlans 117 = .ok (.goto (-47), 3) := by decide +kernel
theorem dX3_settlePlans_120 : decode cX3_settlePlans 120 = .ok (.return_, 1) := by decide +kernel
theorem dX3_letGoUnfit_0 : decode cX3_letGoUnfit 0 = .ok (.aload_n 0, 1) := by decide +kernel
theorem dX3_letGoUnfit_1 : decode cX3_letGoUnfit 1 = .ok (.getfield 183, 3) := by decide +kernel
theorem dX3_letGoUnfit_4 : decode cX3_letGoUnfit 4 = .ok (.invokevirtual 69, 3) := by decide +kernel
theorem dX3_letGoUnfit_7 : decode cX3_letGoUnfit 7 = .ok (.iconst 1, 1) := by decide +kernel
theorem dX3_letGoUnfit_8 : decode cX3_letGoUnfit 8 = .ok (.isub, 1) := by decide +kernel
theorem dX3_letGoUnfit_9 : decode cX3_letGoUnfit 9 = .ok (.istore_n 1, 1) := by decide +kernel
theorem dX3_letGoUnfit_10 : decode cX3_letGoUnfit 10 = .ok (.iload_n 1, 1) := by decide +kernel
theorem dX3_letGoUnfit_11 : decode cX3_letGoUnfit 11 = .ok (.ifCond .lt 32, 3) := by decide +kernel
theorem dX3_letGoUnfit_14 : decode cX3_letGoUnfit 14 = .ok (.aload_n 0, 1) := by decide +kernel
theorem dX3_letGoUnfit_15 : decode cX3_letGoUnfit 15 = .ok (.iload_n 1, 1) := by decide +kernel
theorem dX3_letGoUnfit_16 : decode cX3_letGoUnfit 16 = .ok (.invokestatic 333, 3) := by decide +kernel
theorem dX3_letGoUnfit_19 : decode cX3_letGoUnfit 19 = .ok (.ifCond .ne 18, 3) := by decide +kernel
theorem dX3_letGoUnfit_22 : decode cX3_letGoUnfit 22 = .ok (.aload_n 0, 1) := by decide +kernel
theorem dX3_letGoUnfit_23 : decode cX3_letGoUnfit 23 = .ok (.getfield 183, 3) := by decide +kernel
theorem dX3_letGoUnfit_26 : decode cX3_letGoUnfit 26 = .ok (.iload_n 1, 1) := by decide +kernel
theorem dX3_letGoUnfit_27 : decode cX3_letGoUnfit 27 = .ok (.invokevirtual 337, 3) := by decide +kernel
theorem dX3_letGoUnfit_30 : decode cX3_letGoUnfit 30 = .ok (.checkcast 75, 3) := by decide +kernel
theorem dX3_letGoUnfit_33 : decode cX3_letGoUnfit 33 = .ok (.iconst 0, 1) := by decide +kernel
theorem dX3_letGoUnfit_34 : decode cX3_letGoUnfit 34 = .ok (.putfield 254, 3) := by decide +kernel
theorem dX3_letGoUnfit_37 : decode cX3_letGoUnfit 37 = .ok (.iinc 1 (-1), 3) := by decide +kernel
theorem dX3_letGoUnfit_40 : decode cX3_letGoUnfit 40 = .ok (.goto (-30), 3) := by decide +kernel
theorem dX3_letGoUnfit_43 : decode cX3_letGoUnfit 43 = .ok (.return_, 1) := by decide +kernel
theorem dX3_isFit_0 : decode cX3_isFit 0 = .ok (.aload_n 0, 1) := by decide +kernel
theorem dX3_isFit_1 : decode cX3_isFit 1 = .ok (.getfield 183, 3) := by decide +kernel
theorem dX3_isFit_4 : decode cX3_isFit 4 = .ok (.iload_n 1, 1) := by decide +kernel
theorem dX3_isFit_5 : decode cX3_isFit 5 = .ok (.invokestatic 190, 3) := by decide +kernel
theorem dX3_isFit_8 : decode cX3_isFit 8 = .ok (.astore_n 2, 1) := by decide +kernel
theorem dX3_isFit_9 : decode cX3_isFit 9 = .ok (.aload_n 2, 1) := by decide +kernel
theorem dX3_isFit_10 : decode cX3_isFit 10 = .ok (.invokevirtual 122, 3) := by decide +kernel
theorem dX3_isFit_13 : decode cX3_isFit 13 = .ok (.aload_n 0, 1) := by decide +kernel
theorem dX3_isFit_14 : decode cX3_isFit 14 = .ok (.getfield 340, 3) := by decide +kernel
theorem dX3_isFit_17 : decode cX3_isFit 17 = .ok (.if_icmp .ne 19, 3) := by decide +kernel
theorem dX3_isFit_20 : decode cX3_isFit 20 = .ok (.aload_n 0, 1) := by decide +kernel
theorem dX3_isFit_21 : decode cX3_isFit 21 = .ok (.getfield 183, 3) := by decide +kernel
theorem dX3_isFit_24 : decode cX3_isFit 24 = .ok (.iload_n 1, 1) := by decide +kernel
theorem dX3_isFit_25 : decode cX3_isFit 25 = .ok (.aload_n 2, 1) := by decide +kernel
theorem dX3_isFit_26 : decode cX3_isFit 26 = .ok (.invokestatic 343, 3) := by decide +kernel
theorem dX3_isFit_29 : decode cX3_isFit 29 = .ok (.ifCond .ne 7, 3) := by decide +kernel
theorem dX3_isFit_32 : decode cX3_isFit 32 = .ok (.iconst 1, 1) := by decide +kernel
theorem dX3_isFit_33 : decode cX3_isFit 33 = .ok (.goto 4, 3) := by decide +kernel
theorem dX3_isFit_36 : decode cX3_isFit 36 = .ok (.iconst 0, 1) := by decide +kernel
theorem dX3_isFit_37 : decode cX3_isFit 37 = .ok (.ireturn, 1) := by decide +kernel
theorem dX3_letGoAll_0 : decode cX3_letGoAll 0 = .ok (.iconst 0, 1) := by decide +kernel
theorem dX3_letGoAll_1 : decode cX3_letGoAll 1 = .ok (.istore_n 1, 1) := by decide +kernel
theorem dX3_letGoAll_2 : decode cX3_letGoAll 2 = .ok (.iload_n 1, 1) := by decide +kernel
theorem dX3_letGoAll_3 : decode cX3_letGoAll 3 = .ok (.aload_n 0, 1) := by decide +kernel
theorem dX3_letGoAll_4 : decode cX3_letGoAll 4 = .ok (.getfield 183, 3) := by decide +kernel
theorem dX3_letGoAll_7 : decode cX3_letGoAll 7 = .ok (.invokevirtual 69, 3) := by decide +kernel
theorem dX3_letGoAll_10 : decode cX3_letGoAll 10 = .ok (.if_icmp .ge 24, 3) := by decide +kernel
theorem dX3_letGoAll_13 : decode cX3_letGoAll 13 = .ok (.aload_n 0, 1) := by decide +kernel
theorem dX3_letGoAll_14 : decode cX3_letGoAll 14 = .ok (.getfield 183, 3) := by decide +kernel
theorem dX3_letGoAll_17 : decode cX3_letGoAll 17 = .ok (.iload_n 1, 1) := by decide +kernel
theorem dX3_letGoAll_18 : decode cX3_letGoAll 18 = .ok (.invokevirtual 132, 3) := by decide +kernel
theorem dX3_letGoAll_21 : decode cX3_letGoAll 21 = .ok (.checkcast 75, 3) := by decide +kernel
theorem dX3_letGoAll_24 : decode cX3_letGoAll 24 = .ok (.iconst 0, 1) := by decide +kernel
theorem dX3_letGoAll_25 : decode cX3_letGoAll 25 = .ok (.putfield 254, 3) := by decide +kernel
theorem dX3_letGoAll_28 : decode cX3_letGoAll 28 = .ok (.iinc 1 1, 3) := by decide +kernel
theorem dX3_letGoAll_31 : decode cX3_letGoAll 31 = .ok (.goto (-29), 3) := by decide +kernel
theorem dX3_letGoAll_34 : decode cX3_letGoAll 34 = .ok (.aload_n 0, 1) := by decide +kernel
theorem dX3_letGoAll_35 : decode cX3_letGoAll 35 = .ok (.getfield 183, 3) := by decide +kernel
theorem dX3_letGoAll_38 : decode cX3_letGoAll 38 = .ok (.invokevirtual 129, 3) := by decide +kernel
theorem dX3_letGoAll_41 : decode cX3_letGoAll 41 = .ok (.return_, 1) := by decide +kernel
theorem dX3_close_0 : decode cX3_close 0 = .ok (.aload_n 0, 1) := by decide +kernel
theorem dX3_close_1 : decode cX3_close 1 = .ok (.invokestatic 327, 3) := by decide +kernel
theorem dX3_close_4 : decode cX3_close 4 = .ok (.aload_n 0, 1) := by decide +kernel
theorem dX3_close_5 : decode cX3_close 5 = .ok (.iconst 1, 1) := by decide +kernel
theorem dX3_close_6 : decode cX3_close 6 = .ok (.putfield 177, 3) := by decide +kernel
theorem dX3_close_9 : decode cX3_close 9 = .ok (.return_, 1) := by decide +kernel
theorem dX3_fill_0 : decode cX3_fill 0 = .ok (.iconst 0, 1) := by decide +kernel
theorem dX3_fill_1 : decode cX3_fill 1 = .ok (.istore_n 2, 1) := by decide +kernel
theorem dX3_fill_2 : decode cX3_fill 2 = .ok (.iload_n 2, 1) := by decide +kernel
theorem dX3_fill_3 : decode cX3_fill 3 = .ok (.aload_n 0, 1) := by decide +kernel
theorem dX3_fill_4 : decode cX3_fill 4 = .ok (.getfield 16, 3) := by decide +kernel
theorem dX3_fill_7 : decode cX3_fill 7 = .ok (.invokevirtual 69, 3) := by decide +kernel
theorem dX3_fill_10 : decode cX3_fill 10 = .ok (.if_icmp .ge 58, 3) := by decide +kernel
theorem dX3_fill_13 : decode cX3_fill 13 = .ok (.aload_n 1, 1) := by decide +kernel
theorem dX3_fill_14 : decode cX3_fill 14 = .ok (.invokevirtual 198, 3) := by decide +kernel
theorem dX3_fill_17 : decode cX3_fill 17 = .ok (.ifCond .le 51, 3) := by decide +kernel
theorem dX3_fill_20 : decode cX3_fill 20 = .ok (.aload_n 0, 1) := by decide +kernel
theorem dX3_fill_21 : decode cX3_fill 21 = .ok (.getfield 16, 3) := by decide +kernel
theorem dX3_fill_24 : decode cX3_fill 24 = .ok (.iload_n 2, 1) := by decide +kernel
theorem dX3_fill_25 : decode cX3_fill 25 = .ok (.invokevirtual 132, 3) := by decide +kernel
theorem dX3_fill_28 : decode cX3_fill 28 = .ok (.checkcast 75, 3) := by decide +kernel
theorem dX3_fill_31 : decode cX3_fill 31 = .ok (.astore_n 3, 1) := by decide +kernel
theorem dX3_fill_32 : decode cX3_fill 32 = .ok (.aload_n 0, 1) := by decide +kernel
theorem dX3_fill_33 : decode cX3_fill 33 = .ok (.aload_n 3, 1) := by decide +kernel
theorem dX3_fill_34 : decode cX3_fill 34 = .ok (.aload_n 1, 1) := by decide +kernel
theorem dX3_fill_35 : decode cX3_fill 35 = .ok (.getfield 340, 3) := by decide +kernel
theorem dX3_fill_38 : decode cX3_fill 38 = .ok (.aload_n 1, 1) := by decide +kernel
theorem dX3_fill_39 : decode cX3_fill 39 = .ok (.getfield 183, 3) := by decide +kernel
theorem dX3_fill_42 : decode cX3_fill 42 = .ok (.invokevirtual 347, 3) := by decide +kernel
theorem dX3_fill_45 : decode cX3_fill 45 = .ok (.ifCond .eq 17, 3) := by decide +kernel
theorem dX3_fill_48 : decode cX3_fill 48 = .ok (.aload_n 1, 1) := by decide +kernel
theorem dX3_fill_49 : decode cX3_fill 49 = .ok (.getfield 183, 3) := by decide +kernel
theorem dX3_fill_52 : decode cX3_fill 52 = .ok (.aload_n 3, 1) := by decide +kernel
theorem dX3_fill_53 : decode cX3_fill 53 = .ok (.invokevirtual 86, 3) := by decide +kernel
theorem dX3_fill_56 : decode cX3_fill 56 = .ok (.pop, 1) := by decide +kernel
theorem dX3_fill_57 : decode cX3_fill 57 = .ok (.aload_n 3, 1) := by decide +kernel
theorem dX3_fill_58 : decode cX3_fill 58 = .ok (.iconst 1, 1) := by decide +kernel
theorem dX3_fill_59 : decode cX3_fill 59 = .ok (.putfield 254, 3) := by decide +kernel
theorem dX3_fill_62 : decode cX3_fill 62 = .ok (.iinc 2 1, 3) := by decide +kernel
theorem dX3_fill_65 : decode cX3_fill 65 = .ok (.goto (-63), 3) := by decide +kernel
theorem dX3_fill_68 : decode cX3_fill 68 = .ok (.return_, 1) := by decide +kernel
theorem dX3_isCandidate_0 : decode cX3_isCandidate 0 = .ok (.aload_n 1, 1) := by decide +kernel
theorem dX3_isCandidate_1 : decode cX3_isCandidate 1 = .ok (.invokevirtual 122, 3) := by decide +kernel
theorem dX3_isCandidate_4 : decode cX3_isCandidate 4 = .ok (.iload_n 2, 1) := by decide +kernel
theorem dX3_isCandidate_5 : decode cX3_isCandidate 5 = .ok (.if_icmp .ne 27, 3) := by decide +kernel
theorem dX3_isCandidate_8 : decode cX3_isCandidate 8 = .ok (.aload_n 0, 1) := by decide +kernel
theorem dX3_isCandidate_9 : decode cX3_isCandidate 9 = .ok (.aload_n 1, 1) := by decide +kernel
theorem dX3_isCandidate_10 : decode cX3_isCandidate 10 = .ok (.invokevirtual 201, 3) := by decide +kernel
theorem dX3_isCandidate_13 : decode cX3_isCandidate 13 = .ok (.ifCond .eq 19, 3) := by decide +kernel
theorem dX3_isCandidate_16 : decode cX3_isCandidate 16 = .ok (.aload_n 3, 1) := by decide +kernel
theorem dX3_isCandidate_17 : decode cX3_isCandidate 17 = .ok (.aload_n 3, 1) := by decide +kernel
theorem dX3_isCandidate_18 : decode cX3_isCandidate 18 = .ok (.invokevirtual 69, 3) := by decide +kernel
theorem dX3_isCandidate_21 : decode cX3_isCandidate 21 = .ok (.aload_n 1, 1) := by decide +kernel
theorem dX3_isCandidate_22 : decode cX3_isCandidate 22 = .ok (.invokestatic 343, 3) := by decide +kernel
theorem dX3_isCandidate_25 : decode cX3_isCandidate 25 = .ok (.ifCond .ne 7, 3) := by decide +kernel
theorem dX3_isCandidate_28 : decode cX3_isCandidate 28 = .ok (.iconst 1, 1) := by decide +kernel
theorem dX3_isCandidate_29 : decode cX3_isCandidate 29 = .ok (.goto 4, 3) := by decide +kernel
theorem dX3_isCandidate_32 : decode cX3_isCandidate 32 = .ok (.iconst 0, 1) := by decide +kernel
theorem dX3_isCandidate_33 : decode cX3_isCandidate 33 = .ok (.ireturn, 1) := by decide +kernel
theorem dX3_drawQuestions_0 : decode cX3_drawQuestions 0 = .ok (.aload_n 0, 1) := by decide +kernel
theorem dX3_drawQuestions_1 : decode cX3_drawQuestions 1 = .ok (.getfield 29, 3) := by decide +kernel
theorem dX3_drawQuestions_4 : decode cX3_drawQuestions 4 = .ok (.invokevirtual 129, 3) := by decide +kernel
theorem dX3_drawQuestions_7 : decode cX3_drawQuestions 7 = .ok (.iload_n 1, 1) := by decide +kernel
theorem dX3_drawQuestions_8 : decode cX3_drawQuestions 8 = .ok (.istore 5, 2) := by decide +kernel
theorem dX3_drawQuestions_10 : decode cX3_drawQuestions 10 = .ok (.iconst 0, 1) := by decide +kernel
theorem dX3_drawQuestions_11 : decode cX3_drawQuestions 11 = .ok (.istore 6, 2) := by decide +kernel
theorem dX3_drawQuestions_13 : decode cX3_drawQuestions 13 = .ok (.iload 6, 2) := by decide +kernel
theorem dX3_drawQuestions_15 : decode cX3_drawQuestions 15 = .ok (.iload_n 2, 1) := by decide +kernel
theorem dX3_drawQuestions_16 : decode cX3_drawQuestions 16 = .ok (.iload_n 3, 1) := by decide +kernel
theorem dX3_drawQuestions_17 : decode cX3_drawQuestions 17 = .ok (.iadd, 1) := by decide +kernel
theorem dX3_drawQuestions_18 : decode cX3_drawQuestions 18 = .ok (.iload 4, 2) := by decide +kernel
theorem dX3_drawQuestions_20 : decode cX3_drawQuestions 20 = .ok (.iadd, 1) := by decide +kernel
theorem dX3_drawQuestions_21 : decode cX3_drawQuestions 21 = .ok (.if_icmp .ge 89, 3) := by decide +kernel
theorem dX3_drawQuestions_24 : decode cX3_drawQuestions 24 = .ok (.aload_n 0, 1) := by decide +kernel
theorem dX3_drawQuestions_25 : decode cX3_drawQuestions 25 = .ok (.iload 6, 2) := by decide +kernel
theorem dX3_drawQuestions_27 : decode cX3_drawQuestions 27 = .ok (.iload_n 2, 1) := by decide +kernel
theorem dX3_drawQuestions_28 : decode cX3_drawQuestions 28 = .ok (.if_icmp .ge 8, 3) := by decide +kernel
theorem dX3_drawQuestions_31 : decode cX3_drawQuestions 31 = .ok (.bipush 101, 2) := by decide +kernel
theorem dX3_drawQuestions_33 : decode cX3_drawQuestions 33 = .ok (.goto 18, 3) := by decide +kernel
theorem dX3_drawQuestions_36 : decode cX3_drawQuestions 36 = .ok (.iload 6, 2) := by decide +kernel
theorem dX3_drawQuestions_38 : decode cX3_drawQuestions 38 = .ok (.iload_n 2, 1) := by decide +kernel
theorem dX3_drawQuestions_39 : decode cX3_drawQuestions 39 = .ok (.iload_n 3, 1) := by decide +kernel
theorem dX3_drawQuestions_40 : decode cX3_drawQuestions 40 = .ok (.iadd, 1) := by decide +kernel
theorem dX3_drawQuestions_41 : decode cX3_drawQuestions 41 = .ok (.if_icmp .ge 8, 3) := by decide +kernel
theorem dX3_drawQuestions_44 : decode cX3_drawQuestions 44 = .ok (.bipush 109, 2) := by decide +kernel
theorem dX3_drawQuestions_46 : decode cX3_drawQuestions 46 = .ok (.goto 5, 3) := by decide +kernel
theorem dX3_drawQuestions_49 : decode cX3_drawQuestions 49 = .ok (.bipush 104, 2) := by decide +kernel
theorem dX3_drawQuestions_51 : decode cX3_drawQuestions 51 = .ok (.invokevirtual 351, 3) := by decide +kernel
theorem dX3_drawQuestions_54 : decode cX3_drawQuestions 54 = .ok (.aload_n 0, 1) := by decide +kernel
theorem dX3_drawQuestions_55 : decode cX3_drawQuestions 55 = .ok (.getfield 32, 3) := by decide +kernel
theorem dX3_drawQuestions_58 : decode cX3_drawQuestions 58 = .ok (.invokevirtual 69, 3) := by decide +kernel
theorem dX3_drawQuestions_61 : decode cX3_drawQuestions 61 = .ok (.istore 7, 2) := by decide +kernel
theorem dX3_drawQuestions_63 : decode cX3_drawQuestions 63 = .ok (.iload 7, 2) := by decide +kernel
theorem dX3_drawQuestions_65 : decode cX3_drawQuestions 65 = .ok (.ifCond .ne 5, 3) := by decide +kernel
theorem dX3_drawQuestions_68 : decode cX3_drawQuestions 68 = .ok (.iconst 0, 1) := by decide +kernel
theorem dX3_drawQuestions_69 : decode cX3_drawQuestions 69 = .ok (.ireturn, 1) := by decide +kernel
theorem dX3_drawQuestions_70 : decode cX3_drawQuestions 70 = .ok (.aload_n 0, 1) := by decide +kernel
theorem dX3_drawQuestions_71 : decode cX3_drawQuestions 71 = .ok (.getfield 29, 3) := by decide +kernel
theorem dX3_drawQuestions_74 : decode cX3_drawQuestions 74 = .ok (.aload_n 0, 1) := by decide +kernel
theorem dX3_drawQuestions_75 : decode cX3_drawQuestions 75 = .ok (.getfield 32, 3) := by decide +kernel
theorem dX3_drawQuestions_78 : decode cX3_drawQuestions 78 = .ok (.iload 5, 2) := by decide +kernel
theorem dX3_drawQuestions_80 : decode cX3_drawQuestions 80 = .ok (.iload 7, 2) := by decide +kernel
theorem dX3_drawQuestions_82 : decode cX3_drawQuestions 82 = .ok (.invokestatic 355, 3) := by decide +kernel
theorem dX3_drawQuestions_85 : decode cX3_drawQuestions 85 = .ok (.invokestatic 190, 3) := by decide +kernel
theorem dX3_drawQuestions_88 : decode cX3_drawQuestions 88 = .ok (.invokevirtual 86, 3) := by decide +kernel
theorem dX3_drawQuestions_91 : decode cX3_drawQuestions 91 = .ok (.pop, 1) := by decide +kernel
theorem dX3_drawQuestions_92 : decode cX3_drawQuestions 92 = .ok (.iload 5, 2) := by decide +kernel
theorem dX3_drawQuestions_94 : decode cX3_drawQuestions 94 = .ok (.iconst 5, 1) := by decide +kernel
theorem dX3_drawQuestions_95 : decode cX3_drawQuestions 95 = .ok (.imul, 1) := by decide +kernel
theorem dX3_drawQuestions_96 : decode cX3_drawQuestions 96 = .ok (.iconst 3, 1) := by decide +kernel
theorem dX3_drawQuestions_97 : decode cX3_drawQuestions 97 = .ok (.iadd, 1) := by decide +kernel
theorem dX3_drawQuestions_98 : decode cX3_drawQuestions 98 = .ok (.sipush 1009, 3) := by decide +kernel
theorem dX3_drawQuestions_101 : decode cX3_drawQuestions 101 = .ok (.irem, 1) := by decide +kernel
theorem dX3_drawQuestions_102 : decode cX3_drawQuestions 102 = .ok (.istore 5, 2) := by decide +kernel
theorem dX3_drawQuestions_104 : decode cX3_drawQuestions 104 = .ok (.iinc 6 1, 3) := by decide +kernel
theorem dX3_drawQuestions_107 : decode cX3_drawQuestions 107 = .ok (.goto (-94), 3) := by decide +kernel
theorem dX3_drawQuestions_110 : decode cX3_drawQuestions 110 = .ok (.iconst 1, 1) := by decide +kernel
theorem dX3_drawQuestions_111 : decode cX3_drawQuestions 111 = .ok (.ireturn, 1) := by decide +kernel
theorem dX3_gatherCandidates_0 : decode cX3_gatherCandidates 0 = .ok (.aload_n 0, 1) := by decide +kernel
theorem dX3_gatherCandidates_1 : decode cX3_gatherCandidates 1 = .ok (.getfield 32, 3) := by decide +kernel
theorem dX3_gatherCandidates_4 : decode cX3_gatherCandidates 4 = .ok (.invokevirtual 129, 3) := by decide +kernel
theorem dX3_gatherCandidates_7 : decode cX3_gatherCandidates 7 = .ok (.iconst 0, 1) := by decide +kernel
theorem dX3_gatherCandidates_8 : decode cX3_gatherCandidates 8 = .ok (.istore_n 2, 1) := by decide +kernel
theorem dX3_gatherCandidates_9 : decode cX3_gatherCandidates 9 = .ok (.iload_n 2, 1) := by decide +kernel
theorem dX3_gatherCandidates_10 : decode cX3_gatherCandidates 10 = .ok (.aload_n 0, 1) := by decide +kernel
theorem dX3_gatherCandidates_11 : decode cX3_gatherCandidates 11 = .ok (.getfield 16, 3) := by decide +kernel
theorem dX3_gatherCandidates_14 : decode cX3_gatherCandidates 14 = .ok (.invokevirtual 69, 3) := by decide +kernel
theorem dX3_gatherCandidates_17 : decode cX3_gatherCandidates 17 = .ok (.if_icmp .ge 51, 3) := by decide +kernel
theorem dX3_gatherCandidates_20 : decode cX3_gatherCandidates 20 = .ok (.aload_n 0, 1) := by decide +kernel
theorem dX3_gatherCandidates_21 : decode cX3_gatherCandidates 21 = .ok (.aload_n 0, 1) := by decide +kernel
theorem dX3_gatherCandidates_22 : decode cX3_gatherCandidates 22 = .ok (.getfield 16, 3) := by decide +kernel
theorem dX3_gatherCandidates_25 : decode cX3_gatherCandidates 25 = .ok (.iload_n 2, 1) := by decide +kernel
theorem dX3_gatherCandidates_26 : decode cX3_gatherCandidates 26 = .ok (.invokevirtual 132, 3) := by decide +kernel
theorem dX3_gatherCandidates_29 : decode cX3_gatherCandidates 29 = .ok (.checkcast 75, 3) := by decide +kernel
theorem dX3_gatherCandidates_32 : decode cX3_gatherCandidates 32 = .ok (.iload_n 1, 1) := by decide +kernel
theorem dX3_gatherCandidates_33 : decode cX3_gatherCandidates 33 = .ok (.aload_n 0, 1) := by decide +kernel
theorem dX3_gatherCandidates_34 : decode cX3_gatherCandidates 34 = .ok (.getfield 29, 3) := by decide +kernel
theorem dX3_gatherCandidates_37 : decode cX3_gatherCandidates 37 = .ok (.invokevirtual 347, 3) := by decide +kernel
theorem dX3_gatherCandidates_40 : decode cX3_gatherCandidates 40 = .ok (.ifCond .eq 22, 3) := by decide +kernel
theorem dX3_gatherCandidates_43 : decode cX3_gatherCandidates 43 = .ok (.aload_n 0, 1) := by decide +kernel
theorem dX3_gatherCandidates_44 : decode cX3_gatherCandidates 44 = .ok (.getfield 32, 3) := by decide +kernel
theorem dX3_gatherCandidates_47 : decode cX3_gatherCandidates 47 = .ok (.aload_n 0, 1) := by decide +kernel
theorem dX3_gatherCandidates_48 : decode cX3_gatherCandidates 48 = .ok (.getfield 16, 3) := by decide +kernel
theorem dX3_gatherCandidates_51 : decode cX3_gatherCandidates 51 = .ok (.iload_n 2, 1) := by decide +kernel
theorem dX3_gatherCandidates_52 : decode cX3_gatherCandidates 52 = .ok (.invokevirtual 132, 3) := by decide +kernel
theorem dX3_gatherCandidates_55 : decode cX3_gatherCandidates 55 = .ok (.checkcast 75, 3) := by decide +kernel
theorem dX3_gatherCandidates_58 : decode cX3_gatherCandidates 58 = .ok (.invokevirtual 86, 3) := by decide +kernel
theorem dX3_gatherCandidates_61 : decode cX3_gatherCandidates 61 = .ok (.pop, 1) := by decide +kernel
theorem dX3_gatherCandidates_62 : decode cX3_gatherCandidates 62 = .ok (.iinc 2 1, 3) := by decide +kernel
theorem dX3_gatherCandidates_65 : decode cX3_gatherCandidates 65 = .ok (.goto (-56), 3) := by decide +kernel
theorem dX3_gatherCandidates_68 : decode cX3_gatherCandidates 68 = .ok (.return_, 1) := by decide +kernel
theorem dX3_spool_0 : decode cX3_spool 0 = .ok (.iconst 0, 1) := by decide +kernel
theorem dX3_spool_1 : decode cX3_spool 1 = .ok (.istore_n 2, 1) := by decide +kernel
theorem dX3_spool_2 : decode cX3_spool 2 = .ok (.iload_n 2, 1) := by decide +kernel
theorem dX3_spool_3 : decode cX3_spool 3 = .ok (.aload_n 1, 1) := by decide +kernel
theorem dX3_spool_4 : decode cX3_spool 4 = .ok (.getfield 239, 3) := by decide +kernel
theorem dX3_spool_7 : decode cX3_spool 7 = .ok (.invokevirtual 69, 3) := by decide +kernel
theorem dX3_spool_10 : decode cX3_spool 10 = .ok (.if_icmp .ge 24, 3) := by decide +kernel
theorem dX3_spool_13 : decode cX3_spool 13 = .ok (.aload_n 1, 1) := by decide +kernel
theorem dX3_spool_14 : decode cX3_spool 14 = .ok (.getfield 239, 3) := by decide +kernel
theorem dX3_spool_17 : decode cX3_spool 17 = .ok (.iload_n 2, 1) := by decide +kernel
theorem dX3_spool_18 : decode cX3_spool 18 = .ok (.invokevirtual 132, 3) := by decide +kernel
theorem dX3_spool_21 : decode cX3_spool 21 = .ok (.checkcast 75, 3) := by decide +kernel
theorem dX3_spool_24 : decode cX3_spool 24 = .ok (.iconst 1, 1) := by decide +kernel
theorem dX3_spool_25 : decode cX3_spool 25 = .ok (.putfield 254, 3) := by decide +kernel
theorem dX3_spool_28 : decode cX3_spool 28 = .ok (.iinc 2 1, 3) := by decide +kernel
theorem dX3_spool_31 : decode cX3_spool 31 = .ok (.goto (-29), 3) := by decide +kernel
theorem dX3_spool_34 : decode cX3_spool 34 = .ok (.aload_n 0, 1) := by decide +kernel
theorem dX3_spool_35 : decode cX3_spool 35 = .ok (.getfield 26, 3) := by decide +kernel
theorem dX3_spool_38 : decode cX3_spool 38 = .ok (.aload_n 1, 1) := by decide +kernel
theorem dX3_spool_39 : decode cX3_spool 39 = .ok (.invokevirtual 86, 3) := by decide +kernel
theorem dX3_spool_42 : decode cX3_spool 42 = .ok (.pop, 1) := by decide +kernel
theorem dX3_spool_43 : decode cX3_spool 43 = .ok (.aload_n 0, 1) := by decide +kernel
theorem dX3_spool_44 : decode cX3_spool 44 = .ok (.invokevirtual 90, 3) := by decide +kernel
theorem dX3_spool_47 : decode cX3_spool 47 = .ok (.aload_n 0, 1) := by decide +kernel
theorem dX3_spool_48 : decode cX3_spool 48 = .ok (.getfield 26, 3) := by decide +kernel
theorem dX3_spool_51 : decode cX3_spool 51 = .ok (.invokevirtual 69, 3) := by decide +kernel
theorem dX3_spool_54 : decode cX3_spool 54 = .ok (.iconst 1, 1) := by decide +kernel
theorem dX3_spool_55 : decode cX3_spool 55 = .ok (.isub, 1) := by decide +kernel
theorem dX3_spool_56 : decode cX3_spool 56 = .ok (.ireturn, 1) := by decide +kernel
theorem dX3_firstWaiting_0 : decode cX3_firstWaiting 0 = .ok (.iconst 0, 1) := by decide +kernel
theorem dX3_firstWaiting_1 : decode cX3_firstWaiting 1 = .ok (.istore_n 1, 1) := by decide +kernel
theorem dX3_firstWaiting_2 : decode cX3_firstWaiting 2 = .ok (.iload_n 1, 1) := by decide +kernel
theorem dX3_firstWaiting_3 : decode cX3_firstWaiting 3 = .ok (.aload_n 0, 1) := by decide +kernel
theorem dX3_firstWaiting_4 : decode cX3_firstWaiting 4 = .ok (.getfield 26, 3) := by decide +kernel
theorem dX3_firstWaiting_7 : decode cX3_firstWaiting 7 = .ok (.invokevirtual 69, 3) := by decide +kernel
theorem dX3_firstWaiting_10 : decode cX3_firstWaiting 10 = .ok (.if_icmp .ge 30, 3) := by decide +kernel
theorem dX3_firstWaiting_13 : decode cX3_firstWaiting 13 = .ok (.aload_n 0, 1) := by decide +kernel
theorem dX3_firstWaiting_14 : decode cX3_firstWaiting 14 = .ok (.getfield 26, 3) := by decide +kernel
theorem dX3_firstWaiting_17 : decode cX3_firstWaiting 17 = .ok (.iload_n 1, 1) := by decide +kernel
theorem dX3_firstWaiting_18 : decode cX3_firstWaiting 18 = .ok (.invokevirtual 132, 3) := by decide +kernel
theorem dX3_firstWaiting_21 : decode cX3_firstWaiting 21 = .ok (.checkcast 217, 3) := by decide +kernel
theorem dX3_firstWaiting_24 : decode cX3_firstWaiting 24 = .ok (.getfield 240, 3) := by decide +kernel
theorem dX3_firstWaiting_27 : decode cX3_firstWaiting 27 = .ok (.bipush 115, 2) := by decide +kernel
theorem dX3_firstWaiting_29 : decode cX3_firstWaiting 29 = .ok (.if_icmp .ne 5, 3) := by decide +kernel
theorem dX3_firstWaiting_32 : decode cX3_firstWaiting 32 = .ok (.iload_n 1, 1) := by decide +kernel
theorem dX3_firstWaiting_33 : decode cX3_firstWaiting 33 = .ok (.ireturn, 1) := by decide +kernel
theorem dX3_firstWaiting_34 : decode cX3_firstWaiting 34 = .ok (.iinc 1 1, 3) := by decide +kernel
theorem dX3_firstWaiting_37 : decode cX3_firstWaiting 37 = .ok (.goto (-35), 3) := by decide +kernel
theorem dX3_firstWaiting_40 : decode cX3_firstWaiting 40 = .ok (.iconst (-1), 1) := by decide +kernel
theorem dX3_firstWaiting_41 : decode cX3_firstWaiting 41 = .ok (.ireturn, 1) := by decide +kernel
theorem dX3_writeText_0 : decode cX3_writeText 0 = .ok (.aload_n 0, 1) := by decide +kernel
theorem dX3_writeText_1 : decode cX3_writeText 1 = .ok (.getfield 38, 3) := by decide +kernel
theorem dX3_writeText_4 : decode cX3_writeText 4 = .ok (.iconst 0, 1) := by decide +kernel
theorem dX3_writeText_5 : decode cX3_writeText 5 = .ok (.invokevirtual 361, 3) := by decide +kernel
theorem dX3_writeText_8 : decode cX3_writeText 8 = .ok (.aload_n 0, 1) := by decide +kernel
theorem dX3_writeText_9 : decode cX3_writeText 9 = .ok (.getfield 38, 3) := by decide +kernel
theorem dX3_writeText_12 : decode cX3_writeText 12 = .ok (.iload_n 1, 1) := by decide +kernel
theorem dX3_writeText_13 : decode cX3_writeText 13 = .ok (.invokevirtual 365, 3) := by decide +kernel
theorem dX3_writeText_16 : decode cX3_writeText 16 = .ok (.bipush 58, 2) := by decide +kernel
theorem dX3_writeText_18 : decode cX3_writeText 18 = .ok (.invokevirtual 369, 3) := by decide +kernel
theorem dX3_writeText_21 : decode cX3_writeText 21 = .ok (.pop, 1) := by decide +kernel
theorem dX3_writeText_22 : decode cX3_writeText 22 = .ok (.iconst 0, 1) := by decide +kernel
theorem dX3_writeText_23 : decode cX3_writeText 23 = .ok (.istore_n 3, 1) := by decide +kernel
theorem dX3_writeText_24 : decode cX3_writeText 24 = .ok (.iload_n 3, 1) := by decide +kernel
theorem dX3_writeText_25 : decode cX3_writeText 25 = .ok (.aload_n 2, 1) := by decide +kernel
theorem dX3_writeText_26 : decode cX3_writeText 26 = .ok (.getfield 239, 3) := by decide +kernel
theorem dX3_writeText_29 : decode cX3_writeText 29 = .ok (.invokevirtual 69, 3) := by decide +kernel
theorem dX3_writeText_32 : decode cX3_writeText 32 = .ok (.if_icmp .ge 45, 3) := by decide +kernel
theorem dX3_writeText_35 : decode cX3_writeText 35 = .ok (.iload_n 3, 1) := by decide +kernel
theorem dX3_writeText_36 : decode cX3_writeText 36 = .ok (.ifCond .le 13, 3) := by decide +kernel
theorem dX3_writeText_39 : decode cX3_writeText 39 = .ok (.aload_n 0, 1) := by decide +kernel
theorem dX3_writeText_40 : decode cX3_writeText 40 = .ok (.getfield 38, 3) := by decide +kernel
theorem dX3_writeText_43 : decode cX3_writeText 43 = .ok (.bipush 44, 2) := by decide +kernel
theorem dX3_writeText_45 : decode cX3_writeText 45 = .ok (.invokevirtual 369, 3) := by decide +kernel
theorem dX3_writeText_48 : decode cX3_writeText 48 = .ok (.pop, 1) := by decide +kernel
theorem dX3_writeText_49 : decode cX3_writeText 49 = .ok (.aload_n 0, 1) := by decide +kernel
theorem dX3_writeText_50 : decode cX3_writeText 50 = .ok (.getfield 38, 3) := by decide +kernel
theorem dX3_writeText_53 : decode cX3_writeText 53 = .ok (.aload_n 2, 1) := by decide +kernel
theorem dX3_writeText_54 : decode cX3_writeText 54 = .ok (.getfield 239, 3) := by decide +kernel
theorem dX3_writeText_57 : decode cX3_writeText 57 = .ok (.iload_n 3, 1) := by decide +kernel
theorem dX3_writeText_58 : decode cX3_writeText 58 = .ok (.invokevirtual 132, 3) := by decide +kernel
theorem dX3_writeText_61 : decode cX3_writeText 61 = .ok (.checkcast 75, 3) := by decide +kernel
theorem dX3_writeText_64 : decode cX3_writeText 64 = .ok (.getfield 152, 3) := by decide +kernel
theorem dX3_writeText_67 : decode cX3_writeText 67 = .ok (.invokevirtual 365, 3) := by decide +kernel
theorem dX3_writeText_70 : decode cX3_writeText 70 = .ok (.pop, 1) := by decide +kernel
theorem dX3_writeText_71 : decode cX3_writeText 71 = .ok (.iinc 3 1, 3) := by decide +kernel
theorem dX3_writeText_74 : decode cX3_writeText 74 = .ok (.goto (-50), 3) := by decide +kernel
theorem dX3_writeText_77 : decode cX3_writeText 77 = .ok (.return_, 1) := by decide +kernel
theorem dX3_areLevelsAsAnswered_0 : decode cX3_areLevelsAsAnswered 0 = .ok (.iconst 0, 1) := by decide +kernel
theorem dX3_areLevelsAsAnswered_1 : decode cX3_areLevelsAsAnswered 1 = .ok (.istore_n 1, 1) := by decide +kernel
theorem dX3_areLevelsAsAnswered_2 : decode cX3_areLevelsAsAnswered 2 = .ok (.iload_n 1, 1) := by decide +kernel
theorem dX3_areLevelsAsAnswered_3 : decode cX3_areLevelsAsAnswered 3 = .ok (.aload_n 0, 1) := by decide +kernel
theorem dX3_areLevelsAsAnswered_4 : decode cX3_areLevelsAsAnswered 4 = .ok (.getfield 16, 3) := by decide +kernel
theorem dX3_areLevelsAsAnswered_7 : decode cX3_areLevelsAsAnswered 7 = .ok (.invokevirtual 69, 3) := by decide +kernel
theorem dX3_areLevelsAsAnswered_10 : decode cX3_areLevelsAsAnswered 10 = .ok (.if_icmp .ge 42, 3) := by decide +kernel
theorem dX3_areLevelsAsAnswered_13 : decode cX3_areLevelsAsAnswered 13 = .ok (.aload_n 0, 1) := by decide +kernel
theorem dX3_areLevelsAsAnswered_14 : decode cX3_areLevelsAsAnswered 14 = .ok (.getfield 16, 3) := by decide +kernel
theorem dX3_areLevelsAsAnswered_17 : decode cX3_areLevelsAsAnswered 17 = .ok (.iload_n 1, 1) := by decide +kernel
theorem dX3_areLevelsAsAnswered_18 : decode cX3_areLevelsAsAnswered 18 = .ok (.invokevirtual 132, 3) := by decide +kernel
theorem dX3_areLevelsAsAnswered_21 : decode cX3_areLevelsAsAnswered 21 = .ok (.checkcast 75, 3) := by decide +kernel
theorem dX3_areLevelsAsAnswered_24 : decode cX3_areLevelsAsAnswered 24 = .ok (.getfield 116, 3) := by decide +kernel
theorem dX3_areLevelsAsAnswered_27 : decode cX3_areLevelsAsAnswered 27 = .ok (.aload_n 0, 1) := by decide +kernel
theorem dX3_areLevelsAsAnswered_28 : decode cX3_areLevelsAsAnswered 28 = .ok (.getfield 16, 3) := by decide +kernel
theorem dX3_areLevelsAsAnswered_31 : decode cX3_areLevelsAsAnswered 31 = .ok (.iload_n 1, 1) := by decide +kernel
theorem dX3_areLevelsAsAnswered_32 : decode cX3_areLevelsAsAnswered 32 = .ok (.invokevirtual 132, 3) := by decide +kernel
theorem dX3_areLevelsAsAnswered_35 : decode cX3_areLevelsAsAnswered 35 = .ok (.checkcast 75, 3) := by decide +kernel
theorem dX3_areLevelsAsAnswered_38 : decode cX3_areLevelsAsAnswered 38 = .ok (.invokevirtual 119, 3) := by decide +kernel
theorem dX3_areLevelsAsAnswered_41 : decode cX3_areLevelsAsAnswered 41 = .ok (.if_icmp .eq 5, 3) := by decide +kernel
theorem dX3_areLevelsAsAnswered_44 : decode cX3_areLevelsAsAnswered 44 = .ok (.iconst 0, 1) := by decide +kernel
theorem dX3_areLevelsAsAnswered_45 : decode cX3_areLevelsAsAnswered 45 = .ok (.ireturn, 1) := by decide +kernel
theorem dX3_areLevelsAsAnswered_46 : decode cX3_areLevelsAsAnswered 46 = .ok (.iinc 1 1, 3) := by decide +kernel
theorem dX3_areLevelsAsAnswered_49 : decode cX3_areLevelsAsAnswered 49 = .ok (.goto (-47), 3) := by decide +kernel
theorem dX3_areLevelsAsAnswered_52 : decode cX3_areLevelsAsAnswered 52 = .ok (.iconst 1, 1) := by decide +kernel
theorem dX3_areLevelsAsAnswered_53 : decode cX3_areLevelsAsAnswered 53 = .ok (.ireturn, 1) := by decide +kernel
theorem dX3_isNoneHeldTwice_0 : decode cX3_isNoneHeldTwice 0 = .ok (.iconst 0, 1) := by decide +kernel
theorem dX3_isNoneHeldTwice_1 : decode cX3_isNoneHeldTwice 1 = .ok (.istore_n 1, 1) := by decide +kernel
theorem dX3_isNoneHeldTwice_2 : decode cX3_isNoneHeldTwice 2 = .ok (.iload_n 1, 1) := by decide +kernel
theorem dX3_isNoneHeldTwice_3 : decode cX3_isNoneHeldTwice 3 = .ok (.aload_n 0, 1) := by decide +kernel
theorem dX3_isNoneHeldTwice_4 : decode cX3_isNoneHeldTwice 4 = .ok (.getfield 16, 3) := by decide +kernel
theorem dX3_isNoneHeldTwice_7 : decode cX3_isNoneHeldTwice 7 = .ok (.invokevirtual 69, 3) := by decide +kernel
theorem dX3_isNoneHeldTwice_10 : decode cX3_isNoneHeldTwice 10 = .ok (.if_icmp .ge 24, 3) := by decide +kernel
theorem dX3_isNoneHeldTwice_13 : decode cX3_isNoneHeldTwice 13 = .ok (.aload_n 0, 1) := by decide +kernel
theorem dX3_isNoneHeldTwice_14 : decode cX3_isNoneHeldTwice 14 = .ok (.getfield 16, 3) := by decide +kernel
theorem dX3_isNoneHeldTwice_17 : decode cX3_isNoneHeldTwice 17 = .ok (.iload_n 1, 1) := by decide +kernel
theorem dX3_isNoneHeldTwice_18 : decode cX3_isNoneHeldTwice 18 = .ok (.invokevirtual 132, 3) := by decide +kernel
theorem dX3_isNoneHeldTwice_21 : decode cX3_isNoneHeldTwice 21 = .ok (.checkcast 75, 3) := by decide +kernel
theorem dX3_isNoneHeldTwice_24 : decode cX3_isNoneHeldTwice 24 = .ok (.iconst 0, 1) := by decide +kernel
theorem dX3_isNoneHeldTwice_25 : decode cX3_isNoneHeldTwice 25 = .ok (.putfield 372, 3) := by decide +kernel
theorem dX3_isNoneHeldTwice_28 : decode cX3_isNoneHeldTwice 28 = .ok (.iinc 1 1, 3) := by decide +kernel
theorem dX3_isNoneHeldTwice_31 : decode cX3_isNoneHeldTwice 31 = .ok (.goto (-29), 3) := by decide +kernel
theorem dX3_isNoneHeldTwice_34 : decode cX3_isNoneHeldTwice 34 = .ok (.iconst 0, 1) := by decide +kernel
theorem dX3_isNoneHeldTwice_35 : decode cX3_isNoneHeldTwice 35 = .ok (.istore_n 1, 1) := by decide +kernel
theorem dX3_isNoneHeldTwice_36 : decode cX3_isNoneHeldTwice 36 = .ok (.iload_n 1, 1) := by decide +kernel
theorem dX3_isNoneHeldTwice_37 : decode cX3_isNoneHeldTwice 37 = .ok (.aload_n 0, 1) := by decide +kernel
theorem dX3_isNoneHeldTwice_38 : decode cX3_isNoneHeldTwice 38 = .ok (.getfield 23, 3) := by decide +kernel
theorem dX3_isNoneHeldTwice_41 : decode cX3_isNoneHeldTwice 41 = .ok (.invokevirtual 69, 3) := by decide +kernel
theorem dX3_isNoneHeldTwice_44 : decode cX3_isNoneHeldTwice 44 = .ok (.if_icmp .ge 26, 3) := by decide +kernel
theorem dX3_isNoneHeldTwice_47 : decode cX3_isNoneHeldTwice 47 = .ok (.aload_n 0, 1) := by decide +kernel
theorem dX3_isNoneHeldTwice_48 : decode cX3_isNoneHeldTwice 48 = .ok (.getfield 23, 3) := by decide +kernel
theorem dX3_isNoneHeldTwice_51 : decode cX3_isNoneHeldTwice 51 = .ok (.iload_n 1, 1) := by decide +kernel
theorem dX3_isNoneHeldTwice_52 : decode cX3_isNoneHeldTwice 52 = .ok (.invokevirtual 132, 3) := by decide +kernel
theorem dX3_isNoneHeldTwice_55 : decode cX3_isNoneHeldTwice 55 = .ok (.checkcast 168, 3) := by decide +kernel
theorem dX3_isNoneHeldTwice_58 : decode cX3_isNoneHeldTwice 58 = .ok (.getfield 183, 3) := by decide +kernel
theorem dX3_isNoneHeldTwice_61 : decode cX3_isNoneHeldTwice 61 = .ok (.invokestatic 375, 3) := by decide +kernel
theorem dX3_isNoneHeldTwice_64 : decode cX3_isNoneHeldTwice 64 = .ok (.iinc 1 1, 3) := by decide +kernel
theorem dX3_isNoneHeldTwice_67 : decode cX3_isNoneHeldTwice 67 = .ok (.goto (-31), 3) := by decide +kernel
theorem dX3_isNoneHeldTwice_70 : decode cX3_isNoneHeldTwice 70 = .ok (.iconst 0, 1) := by decide +kernel
theorem dX3_isNoneHeldTwice_71 : decode cX3_isNoneHeldTwice 71 = .ok (.istore_n 1, 1) := by decide +kernel
theorem dX3_isNoneHeldTwice_72 : decode cX3_isNoneHeldTwice 72 = .ok (.iload_n 1, 1) := by decide +kernel
theorem dX3_isNoneHeldTwice_73 : decode cX3_isNoneHeldTwice 73 = .ok (.aload_n 0, 1) := by decide +kernel
theorem dX3_isNoneHeldTwice_74 : decode cX3_isNoneHeldTwice 74 = .ok (.getfield 26, 3) := by decide +kernel
theorem dX3_isNoneHeldTwice_77 : decode cX3_isNoneHeldTwice 77 = .ok (.invokevirtual 69, 3) := by decide +kernel
theorem dX3_isNoneHeldTwice_80 : decode cX3_isNoneHeldTwice 80 = .ok (.if_icmp .ge 45, 3) := by decide +kernel
theorem dX3_isNoneHeldTwice_83 : decode cX3_isNoneHeldTwice 83 = .ok (.aload_n 0, 1) := by decide +kernel
theorem dX3_isNoneHeldTwice_84 : decode cX3_isNoneHeldTwice 84 = .ok (.getfield 26, 3) := by decide +kernel
theorem dX3_isNoneHeldTwice_87 : decode cX3_isNoneHeldTwice 87 = .ok (.iload_n 1, 1) := by decide +kernel
theorem dX3_isNoneHeldTwice_88 : decode cX3_isNoneHeldTwice 88 = .ok (.invokevirtual 132, 3) := by decide +kernel
theorem dX3_isNoneHeldTwice_91 : decode cX3_isNoneHeldTwice 91 = .ok (.checkcast 217, 3) := by decide +kernel
theorem dX3_isNoneHeldTwice_94 : decode cX3_isNoneHeldTwice 94 = .ok (.getfield 240, 3) := by decide +kernel
theorem dX3_isNoneHeldTwice_97 : decode cX3_isNoneHeldTwice 97 = .ok (.bipush 115, 2) := by decide +kernel
theorem dX3_isNoneHeldTwice_99 : decode cX3_isNoneHeldTwice 99 = .ok (.if_icmp .ne 20, 3) := by decide +kernel
theorem dX3_isNoneHeldTwice_102 : decode cX3_isNoneHeldTwice 102 = .ok (.aload_n 0, 1) := by decide +kernel
theorem dX3_isNoneHeldTwice_103 : decode cX3_isNoneHeldTwice 103 = .ok (.getfield 26, 3) := by decide +kernel
theorem dX3_isNoneHeldTwice_106 : decode cX3_isNoneHeldTwice 106 = .ok (.iload_n 1, 1) := by decide +kernel
theorem dX3_isNoneHeldTwice_107 : decode cX3_isNoneHeldTwice 107 = .ok (.invokevirtual 132, 3) := by decide +kernel
theorem dX3_isNoneHeldTwice_110 : decode cX3_isNoneHeldTwice 110 = .ok (.checkcast 217, 3) := by decide +kernel
theorem dX3_isNoneHeldTwice_113 : decode cX3_isNoneHeldTwice 113 = .ok (.getfield 239, 3) := by decide +kernel
theorem dX3_isNoneHeldTwice_116 : decode cX3_isNoneHeldTwice 116 = .ok (.invokestatic 375, 3) := by decide +kernel
theorem dX3_isNoneHeldTwice_119 : decode cX3_isNoneHeldTwice 119 = .ok (.iinc 1 1, 3) := by decide +kernel
theorem dX3_isNoneHeldTwice_122 : decode cX3_isNoneHeldTwice 122 = .ok (.goto (-50), 3) := by decide +kernel
theorem dX3_isNoneHeldTwice_125 : decode cX3_isNoneHeldTwice 125 = .ok (.iconst 0, 1) := by decide +kernel
theorem dX3_isNoneHeldTwice_126 : decode cX3_isNoneHeldTwice 126 = .ok (.istore_n 1, 1) := by decide +kernel
theorem dX3_isNoneHeldTwice_127 : decode cX3_isNoneHeldTwice 127 = .ok (.iload_n 1, 1) := by decide +kernel
theorem dX3_isNoneHeldTwice_128 : decode cX3_isNoneHeldTwice 128 = .ok (.aload_n 0, 1) := by decide +kernel
theorem dX3_isNoneHeldTwice_129 : decode cX3_isNoneHeldTwice 129 = .ok (.getfield 16, 3) := by decide +kernel
theorem dX3_isNoneHeldTwice_132 : decode cX3_isNoneHeldTwice 132 = .ok (.invokevirtual 69, 3) := by decide +kernel
theorem dX3_isNoneHeldTwice_135 : decode cX3_isNoneHeldTwice 135 = .ok (.if_icmp .ge 29, 3) := by decide +kernel
theorem dX3_isNoneHeldTwice_138 : decode cX3_isNoneHeldTwice 138 = .ok (.aload_n 0, 1) := by decide +kernel
theorem dX3_isNoneHeldTwice_139 : decode cX3_isNoneHeldTwice 139 = .ok (.getfield 16, 3) := by decide +kernel
theorem dX3_isNoneHeldTwice_142 : decode cX3_isNoneHeldTwice 142 = .ok (.iload_n 1, 1) := by decide +kernel
theorem dX3_isNoneHeldTwice_143 : decode cX3_isNoneHeldTwice 143 = .ok (.invokevirtual 132, 3) := by decide +kernel
theorem dX3_isNoneHeldTwice_146 : decode cX3_isNoneHeldTwice 146 = .ok (.checkcast 75, 3) := by decide +kernel
theorem dX3_isNoneHeldTwice_149 : decode cX3_isNoneHeldTwice 149 = .ok (.getfield 372, 3) := by decide +kernel
theorem dX3_isNoneHeldTwice_152 : decode cX3_isNoneHeldTwice 152 = .ok (.iconst 1, 1) := by decide +kernel
theorem dX3_isNoneHeldTwice_153 : decode cX3_isNoneHeldTwice 153 = .ok (.if_icmp .le 5, 3) := by decide +kernel
theorem dX3_isNoneHeldTwice_156 : decode cX3_isNoneHeldTwice 156 = .ok (.iconst 0, 1) := by decide +kernel
theorem dX3_isNoneHeldTwice_157 : decode cX3_isNoneHeldTwice 157 = .ok (.ireturn, 1) := by decide +kernel
theorem dX3_isNoneHeldTwice_158 : decode cX3_isNoneHeldTwice 158 = .ok (.iinc 1 1, 3) := by decide +kernel
theorem dX3_isNoneHeldTwice_161 : decode cX3_isNoneHeldTwice 161 = .ok (.goto (-34), 3) := by decide +kernel
theorem dX3_isNoneHeldTwice_164 : decode cX3_isNoneHeldTwice 164 = .ok (.iconst 1, 1) := by decide +kernel
theorem dX3_isNoneHeldTwice_165 : decode cX3_isNoneHeldTwice 165 = .ok (.ireturn, 1) := by decide +kernel
theorem dX3_countHolder_0 : decode cX3_countHolder 0 = .ok (.iconst 0, 1) := by decide +kernel
theorem dX3_countHolder_1 : decode cX3_countHolder 1 = .ok (.istore_n 1, 1) := by decide +kernel
theorem dX3_countHolder_2 : decode cX3_countHolder 2 = .ok (.iload_n 1, 1) := by decide +kernel
theorem dX3_countHolder_3 : decode cX3_countHolder 3 = .ok (.aload_n 0, 1) := by decide +kernel
theorem dX3_countHolder_4 : decode cX3_countHolder 4 = .ok (.invokevirtual 69, 3) := by decide +kernel
theorem dX3_countHolder_7 : decode cX3_countHolder 7 = .ok (.if_icmp .ge 26, 3) := by decide +kernel
theorem dX3_countHolder_10 : decode cX3_countHolder 10 = .ok (.aload_n 0, 1) := by decide +kernel
theorem dX3_countHolder_11 : decode cX3_countHolder 11 = .ok (.iload_n 1, 1) := by decide +kernel
theorem dX3_countHolder_12 : decode cX3_countHolder 12 = .ok (.invokevirtual 132, 3) := by decide +kernel
theorem dX3_countHolder_15 : decode cX3_countHolder 15 = .ok (.checkcast 75, 3) := by decide +kernel
theorem dX3_countHolder_18 : decode cX3_countHolder 18 = .ok (.dup, 1) := by decide +kernel
theorem dX3_countHolder_19 : decode cX3_countHolder 19 = .ok (.getfield 372, 3) := by decide +kernel
theorem dX3_countHolder_22 : decode cX3_countHolder 22 = .ok (.iconst 1, 1) := by decide +kernel
theorem dX3_countHolder_23 : decode cX3_countHolder 23 = .ok (.iadd, 1) := by decide +kernel
theorem dX3_countHolder_24 : decode cX3_countHolder 24 = .ok (.putfield 372, 3) := by decide +kernel
theorem dX3_countHolder_27 : decode cX3_countHolder 27 = .ok (.iinc 1 1, 3) := by decide +kernel
theorem dX3_countHolder_30 : decode cX3_countHolder 30 = .ok (.goto (-28), 3) := by decide +kernel
theorem dX3_countHolder_33 : decode cX3_countHolder 33 = .ok (.return_, 1) := by decide +kernel
theorem dX3_arePlansKept_0 : decode cX3_arePlansKept 0 = .ok (.iconst 0, 1) := by decide +kernel
theorem dX3_arePlansKept_1 : decode cX3_arePlansKept 1 = .ok (.istore_n 1, 1) := by decide +kernel
theorem dX3_arePlansKept_2 : decode cX3_arePlansKept 2 = .ok (.iload_n 1, 1) := by decide +kernel
theorem dX3_arePlansKept_3 : decode cX3_arePlansKept 3 = .ok (.aload_n 0, 1) := by decide +kernel
theorem dX3_arePlansKept_4 : decode cX3_arePlansKept 4 = .ok (.getfield 23, 3) := by decide +kernel
theorem dX3_arePlansKept_7 : decode cX3_arePlansKept 7 = .ok (.invokevirtual 69, 3) := by decide +kernel
theorem dX3_arePlansKept_10 : decode cX3_arePlansKept 10 = .ok (.if_icmp .ge 50, 3) := by decide +kernel
theorem dX3_arePlansKept_13 : decode cX3_arePlansKept 13 = .ok (.aload_n 0, 1) := by decide +kernel
theorem dX3_arePlansKept_14 : decode cX3_arePlansKept 14 = .ok (.getfield 23, 3) := by decide +kernel
theorem dX3_arePlansKept_17 : decode cX3_arePlansKept 17 = .ok (.iload_n 1, 1) := by decide +kernel
theorem dX3_arePlansKept_18 : decode cX3_arePlansKept 18 = .ok (.invokevirtual 132, 3) := by decide +kernel
theorem dX3_arePlansKept_21 : decode cX3_arePlansKept 21 = .ok (.checkcast 168, 3) := by decide +kernel
theorem dX3_arePlansKept_24 : decode cX3_arePlansKept 24 = .ok (.astore_n 2, 1) := by decide +kernel
theorem dX3_arePlansKept_25 : decode cX3_arePlansKept 25 = .ok (.iconst 0, 1) := by decide +kernel
theorem dX3_arePlansKept_26 : decode cX3_arePlansKept 26 = .ok (.istore_n 3, 1) := by decide +kernel
theorem dX3_arePlansKept_27 : decode cX3_arePlansKept 27 = .ok (.iload_n 3, 1) := by decide +kernel
theorem dX3_arePlansKept_28 : decode cX3_arePlansKept 28 = .ok (.aload_n 2, 1) := by decide +kernel
theorem dX3_arePlansKept_29 : decode cX3_arePlansKept 29 = .ok (.getfield 183, 3) := by decide +kernel
theorem dX3_arePlansKept_32 : decode cX3_arePlansKept 32 = .ok (.invokevirtual 69, 3) := by decide +kernel
theorem dX3_arePlansKept_35 : decode cX3_arePlansKept 35 = .ok (.if_icmp .ge 19, 3) := by decide +kernel
theorem dX3_arePlansKept_38 : decode cX3_arePlansKept 38 = .ok (.aload_n 2, 1) := by decide +kernel
theorem dX3_arePlansKept_39 : decode cX3_arePlansKept 39 = .ok (.iload_n 3, 1) := by decide +kernel
theorem dX3_arePlansKept_40 : decode cX3_arePlansKept 40 = .ok (.invokestatic 333, 3) := by decide +kernel
theorem dX3_arePlansKept_43 : decode cX3_arePlansKept 43 = .ok (.ifCond .ne 5, 3) := by decide +kernel
theorem dX3_arePlansKept_46 : decode cX3_arePlansKept 46 = .ok (.iconst 0, 1) := by decide +kernel
theorem dX3_arePlansKept_47 : decode cX3_arePlansKept 47 = .ok (.ireturn, 1) := by decide +kernel
theorem dX3_arePlansKept_48 : decode cX3_arePlansKept 48 = .ok (.iinc 3 1, 3) := by decide +kernel
theorem dX3_arePlansKept_51 : decode cX3_arePlansKept 51 = .ok (.goto (-24), 3) := by decide +kernel
theorem dX3_arePlansKept_54 : decode cX3_arePlansKept 54 = .ok (.iinc 1 1, 3) := by decide +kernel
theorem dX3_arePlansKept_57 : decode cX3_arePlansKept 57 = .ok (.goto (-55), 3) := by decide +kernel
theorem dX3_arePlansKept_60 : decode cX3_arePlansKept 60 = .ok (.iconst 1, 1) := by decide +kernel
theorem dX3_arePlansKept_61 : decode cX3_arePlansKept 61 = .ok (.ireturn, 1) := by decide +kernel
end
section
theorem dX4_init_0 : decode cX4_init 0 = .ok (.aload_n 0, 1) := by decide +kernel
theorem dX4_init_1 : decode cX4_init 1 = .ok (.invokespecial 1, 3) := by decide +kernel
theorem dX4_init_4 : decode cX4_init 4 = .ok (.aload_n 0, 1) := by decide +kernel
theorem dX4_init_5 : decode cX4_init 5 = .ok (.bipush 6, 2) := by decide +kernel
theorem dX4_init_7 : decode cX4_init 7 = .ok (.newarray .int, 2) := by decide +kernel
theorem dX4_init_9 : decode cX4_init 9 = .ok (.putfield 7, 3) := by decide +kernel
theorem dX4_init_12 : decode cX4_init 12 = .ok (.aload_n 0, 1) := by decide +kernel
theorem dX4_init_13 : decode cX4_init 13 = .ok (.sipush 240, 3) := by decide +kernel
theorem dX4_init_16 : decode cX4_init 16 = .ok (.newarray .int, 2) := by decide +kernel
theorem dX4_init_18 : decode cX4_init 18 = .ok (.putfield 13, 3) := by decide +kernel
theorem dX4_init_21 : decode cX4_init 21 = .ok (.aload_n 0, 1) := by decide +kernel
theorem dX4_init_22 : decode cX4_init 22 = .ok (.bipush 40, 2) := by decide +kernel
theorem dX4_init_24 : decode cX4_init 24 = .ok (.newarray .int, 2) := by decide +kernel
theorem dX4_init_26 : decode cX4_init 26 = .ok (.putfield 16, 3) := by decide +kernel
theorem dX4_init_29 : decode cX4_init 29 = .ok (.aload_n 0, 1) := by decide +kernel
theorem dX4_init_30 : decode cX4_init 30 = .ok (.bipush 40, 2) := by decide +kernel
theorem dX4_init_32 : decode cX4_init 32 = .ok (.newarray .int, 2) := by decide +kernel
theorem dX4_init_34 : decode cX4_init 34 = .ok (.putfield 19, 3) := by decide +kernel
theorem dX4_init_37 : decode cX4_init 37 = .ok (.aload_n 0, 1) := by decide +kernel
theorem dX4_init_38 : decode cX4_init 38 = .ok (.bipush 40, 2) := by decide +kernel
theorem dX4_init_40 : decode cX4_init 40 = .ok (.newarray .int, 2) := by decide +kernel
theorem dX4_init_42 : decode cX4_init 42 = .ok (.putfield 22, 3) := by decide +kernel
theorem dX4_init_45 : decode cX4_init 45 = .ok (.aload_n 0, 1) := by decide +kernel
theorem dX4_init_46 : decode cX4_init 46 = .ok (.bipush 40, 2) := by decide +kernel
theorem dX4_init_48 : decode cX4_init 48 = .ok (.newarray .int, 2) := by decide +kernel
theorem dX4_init_50 : decode cX4_init 50 = .ok (.putfield 25, 3) := by decide +kernel
theorem dX4_init_53 : decode cX4_init 53 = .ok (.aload_n 0, 1) := by decide +kernel
theorem dX4_init_54 : decode cX4_init 54 = .ok (.bipush 40, 2) := by decide +kernel
theorem dX4_init_56 : decode cX4_init 56 = .ok (.newarray .int, 2) := by decide +kernel
theorem dX4_init_58 : decode cX4_init 58 = .ok (.putfield 28, 3) := by decide +kernel
theorem dX4_init_61 : decode cX4_init 61 = .ok (.aload_n 0, 1) := by decide +kernel
theorem dX4_init_62 : decode cX4_init 62 = .ok (.bipush 40, 2) := by decide +kernel
theorem dX4_init_64 : decode cX4_init 64 = .ok (.newarray .int, 2) := by decide +kernel
theorem dX4_init_66 : decode cX4_init 66 = .ok (.putfield 31, 3) := by decide +kernel
theorem dX4_init_69 : decode cX4_init 69 = .ok (.aload_n 0, 1) := by decide +kernel
theorem dX4_init_70 : decode cX4_init 70 = .ok (.bipush 12, 2) := by decide +kernel
theorem dX4_init_72 : decode cX4_init 72 = .ok (.newarray .int, 2) := by decide +kernel
theorem dX4_init_74 : decode cX4_init 74 = .ok (.putfield 34, 3) := by decide +kernel
theorem dX4_init_77 : decode cX4_init 77 = .ok (.aload_n 0, 1) := by decide +kernel
theorem dX4_init_78 : decode cX4_init 78 = .ok (.bipush 12, 2) := by decide +kernel
theorem dX4_init_80 : decode cX4_init 80 = .ok (.newarray .int, 2) := by decide +kernel
theorem dX4_init_82 : decode cX4_init 82 = .ok (.putfield 37, 3) := by decide +kernel
theorem dX4_init_85 : decode cX4_init 85 = .ok (.aload_n 0, 1) := by decide +kernel
theorem dX4_init_86 : decode cX4_init 86 = .ok (.bipush 108, 2) := by decide +kernel
theorem dX4_init_88 : decode cX4_init 88 = .ok (.newarray .int, 2) := by decide +kernel
theorem dX4_init_90 : decode cX4_init 90 = .ok (.putfield 40, 3) := by decide +kernel
theorem dX4_init_93 : decode cX4_init 93 = .ok (.aload_n 0, 1) := by decide +kernel
theorem dX4_init_94 : decode cX4_init 94 = .ok (.bipush 12, 2) := by decide +kernel
theorem dX4_init_96 : decode cX4_init 96 = .ok (.newarray .int, 2) := by decide +kernel
theorem dX4_init_98 : decode cX4_init 98 = .ok (.putfield 43, 3) := by decide +kernel
theorem dX4_init_101 : decode cX4_init 101 = .ok (.aload_n 0, 1) := by decide +kernel
theorem dX4_init_102 : decode cX4_init 102 = .ok (.bipush 12, 2) := by decide +kernel
theorem dX4_init_104 : decode cX4_init 104 = .ok (.newarray .char, 2) := by decide +kernel
theorem dX4_init_106 : decode cX4_init 106 = .ok (.putfield 46, 3) := by decide +kernel
theorem dX4_init_109 : decode cX4_init 109 = .ok (.aload_n 0, 1) := by decide +kernel
theorem dX4_init_110 : decode cX4_init 110 = .ok (.bipush 30, 2) := by decide +kernel
theorem dX4_init_112 : decode cX4_init 112 = .ok (.newarray .char, 2) := by decide +kernel
theorem dX4_init_114 : decode cX4_init 114 = .ok (.putfield 50, 3) := by decide +kernel
theorem dX4_init_117 : decode cX4_init 117 = .ok (.aload_n 0, 1) := by decide +kernel
theorem dX4_init_118 : decode cX4_init 118 = .ok (.bipush 12, 2) := by decide +kernel
theorem dX4_init_120 : decode cX4_init 120 = .ok (.newarray .boolean, 2) := by decide +kernel
theorem dX4_init_122 : decode cX4_init 122 = .ok (.putfield 53, 3) := by decide +kernel
theorem dX4_init_125 : decode cX4_init 125 = .ok (.aload_n 0, 1) := by decide +kernel
theorem dX4_init_126 : decode cX4_init 126 = .ok (.sipush 810, 3) := by decide +kernel
theorem dX4_init_129 : decode cX4_init 129 = .ok (.newarray .boolean, 2) := by decide +kernel
theorem dX4_init_131 : decode cX4_init 131 = .ok (.putfield 57, 3) := by decide +kernel
theorem dX4_init_134 : decode cX4_init 134 = .ok (.aload_n 0, 1) := by decide +kernel
theorem dX4_init_135 : decode cX4_init 135 = .ok (.sipush 810, 3) := by decide +kernel
theorem dX4_init_138 : decode cX4_init 138 = .ok (.newarray .int, 2) := by decide +kernel
theorem dX4_init_140 : decode cX4_init 140 = .ok (.putfield 60, 3) := by decide +kernel
theorem dX4_init_143 : decode cX4_init 143 = .ok (.aload_n 0, 1) := by decide +kernel
theorem dX4_init_144 : decode cX4_init 144 = .ok (.bipush 30, 2) := by decide +kernel
theorem dX4_init_146 : decode cX4_init 146 = .ok (.newarray .int, 2) := by decide +kernel
theorem dX4_init_148 : decode cX4_init 148 = .ok (.putfield 63, 3) := by decide +kernel
theorem dX4_init_151 : decode cX4_init 151 = .ok (.aload_n 0, 1) := by decide +kernel
theorem dX4_init_152 : decode cX4_init 152 = .ok (.sipush 200, 3) := by decide +kernel
theorem dX4_init_155 : decode cX4_init 155 = .ok (.newarray .char, 2) := by decide +kernel
theorem dX4_init_157 : decode cX4_init 157 = .ok (.putfield 66, 3) := by decide +kernel
theorem dX4_init_160 : decode cX4_init 160 = .ok (.aload_n 0, 1) := by decide +kernel
theorem dX4_init_161 : decode cX4_init 161 = .ok (.bipush 27, 2) := by decide +kernel
theorem dX4_init_163 : decode cX4_init 163 = .ok (.newarray .int, 2) := by decide +kernel
theorem dX4_init_165 : decode cX4_init 165 = .ok (.putfield 69, 3) := by decide +kernel
theorem dX4_init_168 : decode cX4_init 168 = .ok (.return_, 1) := by decide +kernel
theorem dX4_thrown_0 : decode cX4_thrown 0 = .ok (.aload_n 0, 1) := by decide +kernel
theorem dX4_thrown_1 : decode cX4_thrown 1 = .ok (.getfield 72, 3) := by decide +kernel
theorem dX4_thrown_4 : decode cX4_thrown 4 = .ok (.ireturn, 1) := by decide +kernel
theorem dX4_in_0 : decode cX4_in 0 = .ok (.iload_n 0, 1) := by decide +kernel
theorem dX4_in_1 : decode cX4_in 1 = .ok (.iload_n 1, 1) := by decide +kernel
theorem dX4_in_2 : decode cX4_in 2 = .ok (.if_icmp .lt 12, 3) := by decide +kernel
theorem dX4_in_5 : decode cX4_in 5 = .ok (.iload_n 0, 1) := by decide +kernel
theorem dX4_in_6 : decode cX4_in 6 = .ok (.iload_n 2, 1) := by decide +kernel
theorem dX4_in_7 : decode cX4_in 7 = .ok (.if_icmp .gt 7, 3) := by decide +kernel
theorem dX4_in_10 : decode cX4_in 10 = .ok (.iconst 1, 1) := by decide +kernel
theorem dX4_in_11 : decode cX4_in 11 = .ok (.goto 4, 3) := by decide +kernel
theorem dX4_in_14 : decode cX4_in 14 = .ok (.iconst 0, 1) := by decide +kernel
theorem dX4_in_15 : decode cX4_in 15 = .ok (.ireturn, 1) := by decide +kernel
theorem dX4_plain_0 : decode cX4_plain 0 = .ok (.aload_n 0, 1) := by decide +kernel
theorem dX4_plain_1 : decode cX4_plain 1 = .ok (.iconst 0, 1) := by decide +kernel
theorem dX4_plain_2 : decode cX4_plain 2 = .ok (.putfield 72, 3) := by decide +kernel
theorem dX4_plain_5 : decode cX4_plain 5 = .ok (.iload_n 1, 1) := by decide +kernel
theorem dX4_plain_6 : decode cX4_plain 6 = .ok (.ireturn, 1) := by decide +kernel
theorem dX4_isQuestion_0 : decode cX4_isQuestion 0 = .ok (.iload_n 1, 1) := by decide +kernel
theorem dX4_isQuestion_1 : decode cX4_isQuestion 1 = .ok (.iconst 0, 1) := by decide +kernel
theorem dX4_isQuestion_2 : decode cX4_isQuestion 2 = .ok (.aload_n 0, 1) := by decide +kernel
theorem dX4_isQuestion_3 : decode cX4_isQuestion 3 = .ok (.getfield 76, 3) := by decide +kernel
theorem dX4_isQuestion_6 : decode cX4_isQuestion 6 = .ok (.iconst 1, 1) := by decide +kernel
theorem dX4_isQuestion_7 : decode cX4_isQuestion 7 = .ok (.isub, 1) := by decide +kernel
theorem dX4_isQuestion_8 : decode cX4_isQuestion 8 = .ok (.invokestatic 79, 3) := by decide +kernel
theorem dX4_isQuestion_11 : decode cX4_isQuestion 11 = .ok (.ireturn, 1) := by decide +kernel
theorem dX4_isPlan_0 : decode cX4_isPlan 0 = .ok (.iload_n 1, 1) := by decide +kernel
theorem dX4_isPlan_1 : decode cX4_isPlan 1 = .ok (.iconst 0, 1) := by decide +kernel
theorem dX4_isPlan_2 : decode cX4_isPlan 2 = .ok (.aload_n 0, 1) := by decide +kernel
theorem dX4_isPlan_3 : decode cX4_isPlan 3 = .ok (.getfield 83, 3) := by decide +kernel
theorem dX4_isPlan_6 : decode cX4_isPlan 6 = .ok (.iconst 1, 1) := by decide +kernel
theorem dX4_isPlan_7 : decode cX4_isPlan 7 = .ok (.isub, 1) := by decide +kernel
theorem dX4_isPlan_8 : decode cX4_isPlan 8 = .ok (.invokestatic 79, 3) := by decide +kernel
theorem dX4_isPlan_11 : decode cX4_isPlan 11 = .ok (.ireturn, 1) := by decide +kernel
theorem dX4_isSheet_0 : decode cX4_isSheet 0 = .ok (.iload_n 1, 1) := by decide +kernel
theorem dX4_isSheet_1 : decode cX4_isSheet 1 = .ok (.iconst 0, 1) := by decide +kernel
theorem dX4_isSheet_2 : decode cX4_isSheet 2 = .ok (.aload_n 0, 1) := by decide +kernel
theorem dX4_isSheet_3 : decode cX4_isSheet 3 = .ok (.getfield 86, 3) := by decide +kernel
theorem dX4_isSheet_6 : decode cX4_isSheet 6 = .ok (.iconst 1, 1) := by decide +kernel
theorem dX4_isSheet_7 : decode cX4_isSheet 7 = .ok (.isub, 1) := by decide +kernel
theorem dX4_isSheet_8 : decode cX4_isSheet 8 = .ok (.invokestatic 79, 3) := by decide +kernel
theorem dX4_isSheet_11 : decode cX4_isSheet 11 = .ok (.ireturn, 1) := by decide +kernel
theorem dX4_type_0 : decode cX4_type 0 = .ok (.aload_n 0, 1) := by decide +kernel
theorem dX4_type_1 : decode cX4_type 1 = .ok (.iload_n 1, 1) := by decide +kernel
theorem dX4_type_2 : decode cX4_type 2 = .ok (.iconst 0, 1) := by decide +kernel
theorem dX4_type_3 : decode cX4_type 3 = .ok (.bipush 29, 2) := by decide +kernel
theorem dX4_type_5 : decode cX4_type 5 = .ok (.invokestatic 79, 3) := by decide +kernel
theorem dX4_type_8 : decode cX4_type 8 = .ok (.ifCond .ne 7, 3) := by decide +kernel
theorem dX4_type_11 : decode cX4_type 11 = .ok (.iconst 1, 1) := by decide +kernel
theorem dX4_type_12 : decode cX4_type 12 = .ok (.goto 17, 3) := by decide +kernel
theorem dX4_type_15 : decode cX4_type 15 = .ok (.aload_n 0, 1) := by decide +kernel
theorem dX4_type_16 : decode cX4_type 16 = .ok (.getfield 89, 3) := by decide +kernel
theorem dX4_type_19 : decode cX4_type 19 = .ok (.bipush 6, 2) := by decide +kernel
theorem dX4_type_21 : decode cX4_type 21 = .ok (.if_icmp .ne 7, 3) := by decide +kernel
theorem dX4_type_24 : decode cX4_type 24 = .ok (.iconst 2, 1) := by decide +kernel
theorem dX4_type_25 : decode cX4_type 25 = .ok (.goto 4, 3) := by decide +kernel
theorem dX4_type_28 : decode cX4_type 28 = .ok (.iconst 0, 1) := by decide +kernel
theorem dX4_type_29 : decode cX4_type 29 = .ok (.putfield 72, 3) := by decide +kernel
theorem dX4_type_32 : decode cX4_type 32 = .ok (.aload_n 0, 1) := by decide +kernel
theorem dX4_type_33 : decode cX4_type 33 = .ok (.getfield 72, 3) := by decide +kernel
theorem dX4_type_36 : decode cX4_type 36 = .ok (.ifCond .le 5, 3) := by decide +kernel
theorem dX4_type_39 : decode cX4_type 39 = .ok (.iconst 0, 1) := by decide +kernel
theorem dX4_type_40 : decode cX4_type 40 = .ok (.ireturn, 1) := by decide +kernel
theorem dX4_type_41 : decode cX4_type 41 = .ok (.aload_n 0, 1) := by decide +kernel
theorem dX4_type_42 : decode cX4_type 42 = .ok (.getfield 7, 3) := by decide +kernel
theorem dX4_type_45 : decode cX4_type 45 = .ok (.aload_n 0, 1) := by decide +kernel
theorem dX4_type_46 : decode cX4_type 46 = .ok (.getfield 89, 3) := by decide +kernel
theorem dX4_type_49 : decode cX4_type 49 = .ok (.iload_n 1, 1) := by decide +kernel
theorem dX4_type_50 : decode cX4_type 50 = .ok (.iastore, 1) := by decide +kernel
theorem dX4_type_51 : decode cX4_type 51 = .ok (.aload_n 0, 1) := by decide +kernel
theorem dX4_type_52 : decode cX4_type 52 = .ok (.dup, 1) := by decide +kernel
theorem dX4_type_53 : decode cX4_type 53 = .ok (.getfield 89, 3) := by decide +kernel
theorem dX4_type_56 : decode cX4_type 56 = .ok (.iconst 1, 1) := by decide +kernel
theorem dX4_type_57 : decode cX4_type 57 = .ok (.iadd, 1) := by decide +kernel
theorem dX4_type_58 : decode cX4_type 58 = .ok (.putfield 89, 3) := by decide +kernel
theorem dX4_type_61 : decode cX4_type 61 = .ok (.aload_n 0, 1) := by decide +kernel
theorem dX4_type_62 : decode cX4_type 62 = .ok (.getfield 89, 3) := by decide +kernel
theorem dX4_type_65 : decode cX4_type 65 = .ok (.ireturn, 1) := by decide +kernel
theorem dX4_erase_0 : decode cX4_erase 0 = .ok (.aload_n 0, 1) := by decide +kernel
theorem dX4_erase_1 : decode cX4_erase 1 = .ok (.iconst 0, 1) := by decide +kernel
theorem dX4_erase_2 : decode cX4_erase 2 = .ok (.putfield 72, 3) := by decide +kernel
theorem dX4_erase_5 : decode cX4_erase 5 = .ok (.aload_n 0, 1) := by decide +kernel
theorem dX4_erase_6 : decode cX4_erase 6 = .ok (.getfield 89, 3) := by decide +kernel
theorem dX4_erase_9 : decode cX4_erase 9 = .ok (.istore_n 1, 1) := by decide +kernel
theorem dX4_erase_10 : decode cX4_erase 10 = .ok (.aload_n 0, 1) := by decide +kernel
theorem dX4_erase_11 : decode cX4_erase 11 = .ok (.iconst 0, 1) := by decide +kernel
theorem dX4_erase_12 : decode cX4_erase 12 = .ok (.putfield 89, 3) := by decide +kernel
theorem dX4_erase_15 : decode cX4_erase 15 = .ok (.iload_n 1, 1) := by decide +kernel
theorem dX4_erase_16 : decode cX4_erase 16 = .ok (.ireturn, 1) := by decide +kernel
theorem dX4_add_0 : decode cX4_add 0 = .ok (.aload_n 0, 1) := by decide +kernel
theorem dX4_add_1 : decode cX4_add 1 = .ok (.iload_n 1, 1) := by decide +kernel
theorem dX4_add_2 : decode cX4_add 2 = .ok (.iconst 0, 1) := by decide +kernel
theorem dX4_add_3 : decode cX4_add 3 = .ok (.bipush 100, 2) := by decide +kernel
theorem dX4_add_5 : decode cX4_add 5 = .ok (.invokestatic 79, 3) := by decide +kernel
theorem dX4_add_8 : decode cX4_add 8 = .ok (.ifCond .ne 7, 3) := by decide +kernel
theorem dX4_add_11 : decode cX4_add 11 = .ok (.iconst 1, 1) := by decide +kernel
theorem dX4_add_12 : decode cX4_add 12 = .ok (.goto 28, 3) := by decide +kernel
theorem dX4_add_15 : decode cX4_add 15 = .ok (.aload_n 0, 1) := by decide +kernel
theorem dX4_add_16 : decode cX4_add 16 = .ok (.getfield 89, 3) := by decide +kernel
theorem dX4_add_19 : decode cX4_add 19 = .ok (.ifCond .ne 7, 3) := by decide +kernel
theorem dX4_add_22 : decode cX4_add 22 = .ok (.iconst 2, 1) := by decide +kernel
theorem dX4_add_23 : decode cX4_add 23 = .ok (.goto 17, 3) := by decide +kernel
theorem dX4_add_26 : decode cX4_add 26 = .ok (.aload_n 0, 1) := by decide +kernel
theorem dX4_add_27 : decode cX4_add 27 = .ok (.getfield 76, 3) := by decide +kernel
theorem dX4_add_30 : decode cX4_add 30 = .ok (.bipush 40, 2) := by decide +kernel
theorem dX4_add_32 : decode cX4_add 32 = .ok (.if_icmp .ne 7, 3) := by decide +kernel
theorem dX4_add_35 : decode cX4_add 35 = .ok (.iconst 3, 1) := by decide +kernel
theorem dX4_add_36 : decode cX4_add 36 = .ok (.goto 4, 3) := by decide +kernel
theorem dX4_add_39 : decode cX4_add 39 = .ok (.iconst 0, 1) := by decide +kernel
theorem dX4_add_40 : decode cX4_add 40 = .ok (.putfield 72, 3) := by decide +kernel
theorem dX4_add_43 : decode cX4_add 43 = .ok (.aload_n 0, 1) := by decide +kernel
theorem dX4_add_44 : decode cX4_add 44 = .ok (.getfield 72, 3) := by decide +kernel
theorem dX4_add_47 : decode cX4_add 47 = .ok (.ifCond .le 5, 3) := by decide +kernel
theorem dX4_add_50 : decode cX4_add 50 = .ok (.iconst 0, 1) := by decide +kernel
theorem dX4_add_51 : decode cX4_add 51 = .ok (.ireturn, 1) := by decide +kernel
theorem dX4_add_52 : decode cX4_add 52 = .ok (.iconst 0, 1) := by decide +kernel
theorem dX4_add_53 : decode cX4_add 53 = .ok (.istore_n 2, 1) := by decide +kernel
theorem dX4_add_54 : decode cX4_add 54 = .ok (.iload_n 2, 1) := by decide +kernel
theorem dX4_add_55 : decode cX4_add 55 = .ok (.aload_n 0, 1) := by decide +kernel
theorem dX4_add_56 : decode cX4_add 56 = .ok (.getfield 89, 3) := by decide +kernel
theorem dX4_add_59 : decode cX4_add 59 = .ok (.if_icmp .ge 29, 3) := by decide +kernel
theorem dX4_add_62 : decode cX4_add 62 = .ok (.aload_n 0, 1) := by decide +kernel
theorem dX4_add_63 : decode cX4_add 63 = .ok (.getfield 13, 3) := by decide +kernel
theorem dX4_add_66 : decode cX4_add 66 = .ok (.bipush 6, 2) := by decide +kernel
theorem dX4_add_68 : decode cX4_add 68 = .ok (.aload_n 0, 1) := by decide +kernel
theorem dX4_add_69 : decode cX4_add 69 = .ok (.getfield 76, 3) := by decide +kernel
theorem dX4_add_72 : decode cX4_add 72 = .ok (.imul, 1) := by decide +kernel
theorem dX4_add_73 : decode cX4_add 73 = .ok (.iload_n 2, 1) := by decide +kernel
theorem dX4_add_74 : decode cX4_add 74 = .ok (.iadd, 1) := by decide +kernel
theorem dX4_add_75 : decode cX4_add 75 = .ok (.aload_n 0, 1) := by decide +kernel
theorem dX4_add_76 : decode cX4_add 76 = .ok (.getfield 7, 3) := by decide +kernel
theorem dX4_add_79 : decode cX4_add 79 = .ok (.iload_n 2, 1) := by decide +kernel
theorem dX4_add_80 : decode cX4_add 80 = .ok (.iaload, 1) := by decide +kernel
theorem dX4_add_81 : decode cX4_add 81 = .ok (.iastore, 1) := by decide +kernel
theorem dX4_add_82 : decode cX4_add 82 = .ok (.iinc 2 1, 3) := by decide +kernel
theorem dX4_add_85 : decode cX4_add 85 = .ok (.goto (-31), 3) := by decide +kernel
theorem dX4_add_88 : decode cX4_add 88 = .ok (.aload_n 0, 1) := by decide +kernel
theorem dX4_add_89 : decode cX4_add 89 = .ok (.getfield 16, 3) := by decide +kernel
theorem dX4_add_92 : decode cX4_add 92 = .ok (.aload_n 0, 1) := by decide +kernel
theorem dX4_add_93 : decode cX4_add 93 = .ok (.getfield 76, 3) := by decide +kernel
theorem dX4_add_96 : decode cX4_add 96 = .ok (.aload_n 0, 1) := by decide +kernel
theorem dX4_add_97 : decode cX4_add 97 = .ok (.getfield 89, 3) := by decide +kernel
theorem dX4_add_100 : decode cX4_add 100 = .ok (.iastore, 1) := by decide +kernel
theorem dX4_add_101 : decode cX4_add 101 = .ok (.aload_n 0, 1) := by decide +kernel
theorem dX4_add_102 : decode cX4_add 102 = .ok (.getfield 19, 3) := by decide +kernel
theorem dX4_add_105 : decode cX4_add 105 = .ok (.aload_n 0, 1) := by decide +kernel
theorem dX4_add_106 : decode cX4_add 106 = .ok (.getfield 76, 3) := by decide +kernel
theorem dX4_add_109 : decode cX4_add 109 = .ok (.iload_n 1, 1) := by decide +kernel
theorem dX4_add_110 : decode cX4_add 110 = .ok (.iastore, 1) := by decide +kernel
theorem dX4_add_111 : decode cX4_add 111 = .ok (.aload_n 0, 1) := by decide +kernel
theorem dX4_add_112 : decode cX4_add 112 = .ok (.getfield 22, 3) := by decide +kernel
theorem dX4_add_115 : decode cX4_add 115 = .ok (.aload_n 0, 1) := by decide +kernel
theorem dX4_add_116 : decode cX4_add 116 = .ok (.getfield 76, 3) := by decide +kernel
theorem dX4_add_119 : decode cX4_add 119 = .ok (.aload_n 0, 1) := by decide +kernel
theorem dX4_add_120 : decode cX4_add 120 = .ok (.getfield 76, 3) := by decide +kernel
theorem dX4_add_123 : decode cX4_add 123 = .ok (.iastore, 1) := by decide +kernel
theorem dX4_add_124 : decode cX4_add 124 = .ok (.aload_n 0, 1) := by decide +kernel
theorem dX4_add_125 : decode cX4_add 125 = .ok (.getfield 25, 3) := by decide +kernel
theorem dX4_add_128 : decode cX4_add 128 = .ok (.aload_n 0, 1) := by decide +kernel
theorem dX4_add_129 : decode cX4_add 129 = .ok (.getfield 76, 3) := by decide +kernel
theorem dX4_add_132 : decode cX4_add 132 = .ok (.bipush (-100), 2) := by decide +kernel
theorem dX4_add_134 : decode cX4_add 134 = .ok (.iastore, 1) := by decide +kernel
theorem dX4_add_135 : decode cX4_add 135 = .ok (.aload_n 0, 1) := by decide +kernel
theorem dX4_add_136 : decode cX4_add 136 = .ok (.iconst 0, 1) := by decide +kernel
theorem dX4_add_137 : decode cX4_add 137 = .ok (.putfield 89, 3) := by decide +kernel
theorem dX4_add_140 : decode cX4_add 140 = .ok (.aload_n 0, 1) := by decide +kernel
theorem dX4_add_141 : decode cX4_add 141 = .ok (.dup, 1) := by decide +kernel
theorem dX4_add_142 : decode cX4_add 142 = .ok (.getfield 76, 3) := by decide +kernel
theorem dX4_add_145 : decode cX4_add 145 = .ok (.iconst 1, 1) := by decide +kernel
theorem dX4_add_146 : decode cX4_add 146 = .ok (.iadd, 1) := by decide +kernel
theorem dX4_add_147 : decode cX4_add 147 = .ok (.putfield 76, 3) := by decide +kernel
theorem dX4_add_150 : decode cX4_add 150 = .ok (.aload_n 0, 1) := by decide +kernel
theorem dX4_add_151 : decode cX4_add 151 = .ok (.invokevirtual 92, 3) := by decide +kernel
theorem dX4_add_154 : decode cX4_add 154 = .ok (.aload_n 0, 1) := by decide +kernel
theorem dX4_add_155 : decode cX4_add 155 = .ok (.getfield 76, 3) := by decide +kernel
theorem dX4_add_158 : decode cX4_add 158 = .ok (.iconst 1, 1) := by decide +kernel
theorem dX4_add_159 : decode cX4_add 159 = .ok (.isub, 1) := by decide +kernel
theorem dX4_add_160 : decode cX4_add 160 = .ok (.ireturn, 1) := by decide +kernel
theorem dX4_twin_0 : decode cX4_twin 0 = .ok (.aload_n 0, 1) := by decide +kernel
theorem dX4_twin_1 : decode cX4_twin 1 = .ok (.aload_n 0, 1) := by decide +kernel
theorem dX4_twin_2 : decode cX4_twin 2 = .ok (.iload_n 1, 1) := by decide +kernel
theorem dX4_twin_3 : decode cX4_twin 3 = .ok (.invokevirtual 95, 3) := by decide +kernel
theorem dX4_twin_6 : decode cX4_twin 6 = .ok (.ifCond .eq 11, 3) := by decide +kernel
theorem dX4_twin_9 : decode cX4_twin 9 = .ok (.aload_n 0, 1) := by decide +kernel
theorem dX4_twin_10 : decode cX4_twin 10 = .ok (.iload_n 2, 1) := by decide +kernel
theorem dX4_twin_11 : decode cX4_twin 11 = .ok (.invokevirtual 95, 3) := by decide +kernel
theorem dX4_twin_14 : decode cX4_twin 14 = .ok (.ifCond .ne 7, 3) := by decide +kernel
theorem dX4_twin_17 : decode cX4_twin 17 = .ok (.iconst 1, 1) := by decide +kernel
theorem dX4_twin_18 : decode cX4_twin 18 = .ok (.goto 13, 3) := by decide +kernel
theorem dX4_twin_21 : decode cX4_twin 21 = .ok (.iload_n 1, 1) := by decide +kernel
theorem dX4_twin_22 : decode cX4_twin 22 = .ok (.iload_n 2, 1) := by decide +kernel
theorem dX4_twin_23 : decode cX4_twin 23 = .ok (.if_icmp .ne 7, 3) := by decide +kernel
theorem dX4_twin_26 : decode cX4_twin 26 = .ok (.iconst 2, 1) := by decide +kernel
theorem dX4_twin_27 : decode cX4_twin 27 = .ok (.goto 4, 3) := by decide +kernel
theorem dX4_twin_30 : decode cX4_twin 30 = .ok (.iconst 0, 1) := by decide +kernel
theorem dX4_twin_31 : decode cX4_twin 31 = .ok (.putfield 72, 3) := by decide +kernel
theorem dX4_twin_34 : decode cX4_twin 34 = .ok (.aload_n 0, 1) := by decide +kernel
theorem dX4_twin_35 : decode cX4_twin 35 = .ok (.getfield 72, 3) := by decide +kernel
theorem dX4_twin_38 : decode cX4_twin 38 = .ok (.ifCond .le 5, 3) := by decide +kernel
theorem dX4_twin_41 : decode cX4_twin 41 = .ok (.iconst 0, 1) := by decide +kernel
theorem dX4_twin_42 : decode cX4_twin 42 = .ok (.ireturn, 1) := by decide +kernel
theorem dX4_twin_43 : decode cX4_twin 43 = .ok (.aload_n 0, 1) := by decide +kernel
theorem dX4_twin_44 : decode cX4_twin 44 = .ok (.getfield 22, 3) := by decide +kernel
theorem dX4_twin_47 : decode cX4_twin 47 = .ok (.iload_n 2, 1) := by decide +kernel
theorem dX4_twin_48 : decode cX4_twin 48 = .ok (.iaload, 1) := by decide +kernel
theorem dX4_twin_49 : decode cX4_twin 49 = .ok (.istore_n 3, 1) := by decide +kernel
theorem dX4_twin_50 : decode cX4_twin 50 = .ok (.iconst 0, 1) := by decide +kernel
theorem dX4_twin_51 : decode cX4_twin 51 = .ok (.istore 4, 2) := by decide +kernel
theorem dX4_twin_53 : decode cX4_twin 53 = .ok (.iload 4, 2) := by decide +kernel
theorem dX4_twin_55 : decode cX4_twin 55 = .ok (.aload_n 0, 1) := by decide +kernel
theorem dX4_twin_56 : decode cX4_twin 56 = .ok (.getfield 76, 3) := by decide +kernel
theorem dX4_twin_59 : decode cX4_twin 59 = .ok (.if_icmp .ge 33, 3) := by decide +kernel
theorem dX4_twin_62 : decode cX4_twin 62 = .ok (.aload_n 0, 1) := by decide +kernel
theorem dX4_twin_63 : decode cX4_twin 63 = .ok (.getfield 22, 3) := by decide +kernel
theorem dX4_twin_66 : decode cX4_twin 66 = .ok (.iload 4, 2) := by decide +kernel
theorem dX4_twin_68 : decode cX4_twin 68 = .ok (.iaload, 1) := by decide +kernel
theorem dX4_twin_69 : decode cX4_twin 69 = .ok (.iload_n 3, 1) := by decide +kernel
theorem dX4_twin_70 : decode cX4_twin 70 = .ok (.if_icmp .ne 16, 3) := by decide +kernel
theorem dX4_twin_73 : decode cX4_twin 73 = .ok (.aload_n 0, 1) := by decide +kernel
theorem dX4_twin_74 : decode cX4_twin 74 = .ok (.getfield 22, 3) := by decide +kernel
theorem dX4_twin_77 : decode cX4_twin 77 = .ok (.iload 4, 2) := by decide +kernel
theorem dX4_twin_79 : decode cX4_twin 79 = .ok (.aload_n 0, 1) := by decide +kernel
theorem dX4_twin_80 : decode cX4_twin 80 = .ok (.getfield 22, 3) := by decide +kernel
theorem dX4_twin_83 : decode cX4_twin 83 = .ok (.iload_n 1, 1) := by decide +kernel
theorem dX4_twin_84 : decode cX4_twin 84 = .ok (.iaload, 1) := by decide +kernel
theorem dX4_twin_85 : decode cX4_twin 85 = .ok (.iastore, 1) := by decide +kernel
theorem dX4_twin_86 : decode cX4_twin 86 = .ok (.iinc 4 1, 3) := by decide +kernel
theorem dX4_twin_89 : decode cX4_twin 89 = .ok (.goto (-36), 3) := by decide +kernel
theorem dX4_twin_92 : decode cX4_twin 92 = .ok (.iconst 0, 1) := by decide +kernel
theorem dX4_twin_93 : decode cX4_twin 93 = .ok (.istore 4, 2) := by decide +kernel
theorem dX4_twin_95 : decode cX4_twin 95 = .ok (.iconst 0, 1) := by decide +kernel
theorem dX4_twin_96 : decode cX4_twin 96 = .ok (.istore 5, 2) := by decide +kernel
theorem dX4_twin_98 : decode cX4_twin 98 = .ok (.iload 5, 2) := by decide +kernel
theorem dX4_twin_100 : decode cX4_twin 100 = .ok (.aload_n 0, 1) := by decide +kernel
theorem dX4_twin_101 : decode cX4_twin 101 = .ok (.getfield 76, 3) := by decide +kernel
theorem dX4_twin_104 : decode cX4_twin 104 = .ok (.if_icmp .ge 41, 3) := by decide +kernel
theorem dX4_twin_107 : decode cX4_twin 107 = .ok (.iload 4, 2) := by decide +kernel
theorem dX4_twin_109 : decode cX4_twin 109 = .ok (.iload 5, 2) := by decide +kernel
theorem dX4_twin_111 : decode cX4_twin 111 = .ok (.iload_n 1, 1) := by decide +kernel
theorem dX4_twin_112 : decode cX4_twin 112 = .ok (.if_icmp .eq 23, 3) := by decide +kernel
theorem dX4_twin_115 : decode cX4_twin 115 = .ok (.aload_n 0, 1) := by decide +kernel
theorem dX4_twin_116 : decode cX4_twin 116 = .ok (.getfield 22, 3) := by decide +kernel
theorem dX4_twin_119 : decode cX4_twin 119 = .ok (.iload 5, 2) := by decide +kernel
theorem dX4_twin_121 : decode cX4_twin 121 = .ok (.iaload, 1) := by decide +kernel
theorem dX4_twin_122 : decode cX4_twin 122 = .ok (.aload_n 0, 1) := by decide +kernel
theorem dX4_twin_123 : decode cX4_twin 123 = .ok (.getfield 22, 3) := by decide +kernel
theorem dX4_twin_126 : decode cX4_twin 126 = .ok (.iload_n 1, 1) := by decide +kernel
theorem dX4_twin_127 : decode cX4_twin 127 = .ok (.iaload, 1) := by decide +kernel
theorem dX4_twin_128 : decode cX4_twin 128 = .ok (.if_icmp .ne 7, 3) := by decide +kernel
theorem dX4_twin_131 : decode cX4_twin 131 = .ok (.iconst 1, 1) := by decide +kernel
theorem dX4_twin_132 : decode cX4_twin 132 = .ok (.goto 4, 3) := by decide +kernel
theorem dX4_twin_135 : decode cX4_twin 135 = .ok (.iconst 0, 1) := by decide +kernel
theorem dX4_twin_136 : decode cX4_twin 136 = .ok (.iadd, 1) := by decide +kernel
theorem dX4_twin_137 : decode cX4_twin 137 = .ok (.istore 4, 2) := by decide +kernel
theorem dX4_twin_139 : decode cX4_twin 139 = .ok (.iinc 5 1, 3) := by decide +kernel
theorem dX4_twin_142 : decode cX4_twin 142 = .ok (.goto (-44), 3) := by decide +kernel
theorem dX4_twin_145 : decode cX4_twin 145 = .ok (.aload_n 0, 1) := by decide +kernel
theorem dX4_twin_146 : decode cX4_twin 146 = .ok (.invokevirtual 92, 3) := by decide +kernel
theorem dX4_twin_149 : decode cX4_twin 149 = .ok (.iload 4, 2) := by decide +kernel
theorem dX4_twin_151 : decode cX4_twin 151 = .ok (.ireturn, 1) := by decide +kernel
theorem dX4_areTwin_0 : decode cX4_areTwin 0 = .ok (.iload_n 1, 1) := by decide +kernel
theorem dX4_areTwin_1 : decode cX4_areTwin 1 = .ok (.iload_n 2, 1) := by decide +kernel
theorem dX4_areTwin_2 : decode cX4_areTwin 2 = .ok (.if_icmp .eq 22, 3) := by decide +kernel
theorem dX4_areTwin_5 : decode cX4_areTwin 5 = .ok (.aload_n 0, 1) := by decide +kernel
theorem dX4_areTwin_6 : decode cX4_areTwin 6 = .ok (.getfield 22, 3) := by decide +kernel
theorem dX4_areTwin_9 : decode cX4_areTwin 9 = .ok (.iload_n 1, 1) := by decide +kernel
theorem dX4_areTwin_10 : decode cX4_areTwin 10 = .ok (.iaload, 1) := by decide +kernel
theorem dX4_areTwin_11 : decode cX4_areTwin 11 = .ok (.aload_n 0, 1) := by decide +kernel
theorem dX4_areTwin_12 : decode cX4_areTwin 12 = .ok (.getfield 22, 3) := by decide +kernel
theorem dX4_areTwin_15 : decode cX4_areTwin 15 = .ok (.iload_n 2, 1) := by decide +kernel
theorem dX4_areTwin_16 : decode cX4_areTwin 16 = .ok (.iaload, 1) := by decide +kernel
theorem dX4_areTwin_17 : decode cX4_areTwin 17 = .ok (.if_icmp .ne 7, 3) := by decide +kernel
theorem dX4_areTwin_20 : decode cX4_areTwin 20 = .ok (.iconst 1, 1) := by decide +kernel
theorem dX4_areTwin_21 : decode cX4_areTwin 21 = .ok (.goto 4, 3) := by decide +kernel
theorem dX4_areTwin_24 : decode cX4_areTwin 24 = .ok (.iconst 0, 1) := by decide +kernel
theorem dX4_areTwin_25 : decode cX4_areTwin 25 = .ok (.ireturn, 1) := by decide +kernel
theorem dX4_areTwins_0 : decode cX4_areTwins 0 = .ok (.aload_n 0, 1) := by decide +kernel
theorem dX4_areTwins_1 : decode cX4_areTwins 1 = .ok (.aload_n 0, 1) := by decide +kernel
theorem dX4_areTwins_2 : decode cX4_areTwins 2 = .ok (.iload_n 1, 1) := by decide +kernel
theorem dX4_areTwins_3 : decode cX4_areTwins 3 = .ok (.invokevirtual 95, 3) := by decide +kernel
theorem dX4_areTwins_6 : decode cX4_areTwins 6 = .ok (.ifCond .eq 15, 3) := by decide +kernel
theorem dX4_areTwins_9 : decode cX4_areTwins 9 = .ok (.aload_n 0, 1) := by decide +kernel
theorem dX4_areTwins_10 : decode cX4_areTwins 10 = .ok (.iload_n 2, 1) := by decide +kernel
theorem dX4_areTwins_11 : decode cX4_areTwins 11 = .ok (.invokevirtual 95, 3) := by decide +kernel
theorem dX4_areTwins_14 : decode cX4_areTwins 14 = .ok (.ifCond .eq 7, 3) := by decide +kernel
theorem dX4_areTwins_17 : decode cX4_areTwins 17 = .ok (.iconst 0, 1) := by decide +kernel
theorem dX4_areTwins_18 : decode cX4_areTwins 18 = .ok (.goto 4, 3) := by decide +kernel
theorem dX4_areTwins_21 : decode cX4_areTwins 21 = .ok (.iconst 1, 1) := by decide +kernel
theorem dX4_areTwins_22 : decode cX4_areTwins 22 = .ok (.putfield 72, 3) := by decide +kernel
theorem dX4_areTwins_25 : decode cX4_areTwins 25 = .ok (.aload_n 0, 1) := by decide +kernel
theorem dX4_areTwins_26 : decode cX4_areTwins 26 = .ok (.getfield 72, 3) := by decide +kernel
theorem dX4_areTwins_29 : decode cX4_areTwins 29 = .ok (.ifCond .ne 16, 3) := by decide +kernel
theorem dX4_areTwins_32 : decode cX4_areTwins 32 = .ok (.aload_n 0, 1) := by decide +kernel
theorem dX4_areTwins_33 : decode cX4_areTwins 33 = .ok (.iload_n 1, 1) := by decide +kernel
theorem dX4_areTwins_34 : decode cX4_areTwins 34 = .ok (.iload_n 2, 1) := by decide +kernel
theorem dX4_areTwins_35 : decode cX4_areTwins 35 = .ok (.invokevirtual 99, 3) := by decide +kernel
theorem dX4_areTwins_38 : decode cX4_areTwins 38 = .ok (.ifCond .eq 7, 3) := by decide +kernel
theorem dX4_areTwins_41 : decode cX4_areTwins 41 = .ok (.iconst 1, 1) := by decide +kernel
theorem dX4_areTwins_42 : decode cX4_areTwins 42 = .ok (.goto 4, 3) := by decide +kernel
theorem dX4_areTwins_45 : decode cX4_areTwins 45 = .ok (.iconst 0, 1) := by decide +kernel
theorem dX4_areTwins_46 : decode cX4_areTwins 46 = .ok (.ireturn, 1) := by decide +kernel
theorem dX4_wrongQuestion_0 : decode cX4_wrongQuestion 0 = .ok (.aload_n 0, 1) := by decide +kernel
theorem dX4_wrongQuestion_1 : decode cX4_wrongQuestion 1 = .ok (.aload_n 0, 1) := by decide +kernel
theorem dX4_wrongQuestion_2 : decode cX4_wrongQuestion 2 = .ok (.iload_n 1, 1) := by decide +kernel
theorem dX4_wrongQuestion_3 : decode cX4_wrongQuestion 3 = .ok (.invokevirtual 95, 3) := by decide +kernel
theorem dX4_wrongQuestion_6 : decode cX4_wrongQuestion 6 = .ok (.ifCond .eq 7, 3) := by decide +kernel
theorem dX4_wrongQuestion_9 : decode cX4_wrongQuestion 9 = .ok (.iconst 0, 1) := by decide +kernel
theorem dX4_wrongQuestion_10 : decode cX4_wrongQuestion 10 = .ok (.goto 4, 3) := by decide +kernel
theorem dX4_wrongQuestion_13 : decode cX4_wrongQuestion 13 = .ok (.iconst 1, 1) := by decide +kernel
theorem dX4_wrongQuestion_14 : decode cX4_wrongQuestion 14 = .ok (.putfield 72, 3) := by decide +kernel
theorem dX4_wrongQuestion_17 : decode cX4_wrongQuestion 17 = .ok (.aload_n 0, 1) := by decide +kernel
theorem dX4_wrongQuestion_18 : decode cX4_wrongQuestion 18 = .ok (.getfield 72, 3) := by decide +kernel
theorem dX4_wrongQuestion_21 : decode cX4_wrongQuestion 21 = .ok (.ireturn, 1) := by decide +kernel
theorem dX4_wordAt_0 : decode cX4_wordAt 0 = .ok (.aload_n 0, 1) := by decide +kernel
theorem dX4_wordAt_1 : decode cX4_wordAt 1 = .ok (.iload_n 1, 1) := by decide +kernel
theorem dX4_wordAt_2 : decode cX4_wordAt 2 = .ok (.invokevirtual 103, 3) := by decide +kernel
theorem dX4_wordAt_5 : decode cX4_wordAt 5 = .ok (.ifCond .ne 24, 3) := by decide +kernel
theorem dX4_wordAt_8 : decode cX4_wordAt 8 = .ok (.iload_n 2, 1) := by decide +kernel
theorem dX4_wordAt_9 : decode cX4_wordAt 9 = .ok (.iconst 0, 1) := by decide +kernel
theorem dX4_wordAt_10 : decode cX4_wordAt 10 = .ok (.aload_n 0, 1) := by decide +kernel
theorem dX4_wordAt_11 : decode cX4_wordAt 11 = .ok (.getfield 16, 3) := by decide +kernel
theorem dX4_wordAt_14 : decode cX4_wordAt 14 = .ok (.iload_n 1, 1) := by decide +kernel
theorem dX4_wordAt_15 : decode cX4_wordAt 15 = .ok (.iaload, 1) := by decide +kernel
theorem dX4_wordAt_16 : decode cX4_wordAt 16 = .ok (.iconst 1, 1) := by decide +kernel
theorem dX4_wordAt_17 : decode cX4_wordAt 17 = .ok (.isub, 1) := by decide +kernel
theorem dX4_wordAt_18 : decode cX4_wordAt 18 = .ok (.invokestatic 79, 3) := by decide +kernel
theorem dX4_wordAt_21 : decode cX4_wordAt 21 = .ok (.ifCond .ne 8, 3) := by decide +kernel
theorem dX4_wordAt_24 : decode cX4_wordAt 24 = .ok (.aload_n 0, 1) := by decide +kernel
theorem dX4_wordAt_25 : decode cX4_wordAt 25 = .ok (.iconst 2, 1) := by decide +kernel
theorem dX4_wordAt_26 : decode cX4_wordAt 26 = .ok (.putfield 72, 3) := by decide +kernel
theorem dX4_wordAt_29 : decode cX4_wordAt 29 = .ok (.aload_n 0, 1) := by decide +kernel
theorem dX4_wordAt_30 : decode cX4_wordAt 30 = .ok (.getfield 72, 3) := by decide +kernel
theorem dX4_wordAt_33 : decode cX4_wordAt 33 = .ok (.ifCond .le 7, 3) := by decide +kernel
theorem dX4_wordAt_36 : decode cX4_wordAt 36 = .ok (.iconst 0, 1) := by decide +kernel
theorem dX4_wordAt_37 : decode cX4_wordAt 37 = .ok (.goto 14, 3) := by decide +kernel
theorem dX4_wordAt_40 : decode cX4_wordAt 40 = .ok (.aload_n 0, 1) := by decide +kernel
theorem dX4_wordAt_41 : decode cX4_wordAt 41 = .ok (.getfield 13, 3) := by decide +kernel
theorem dX4_wordAt_44 : decode cX4_wordAt 44 = .ok (.bipush 6, 2) := by decide +kernel
theorem dX4_wordAt_46 : decode cX4_wordAt 46 = .ok (.iload_n 1, 1) := by decide +kernel
theorem dX4_wordAt_47 : decode cX4_wordAt 47 = .ok (.imul, 1) := by decide +kernel
theorem dX4_wordAt_48 : decode cX4_wordAt 48 = .ok (.iload_n 2, 1) := by decide +kernel
theorem dX4_wordAt_49 : decode cX4_wordAt 49 = .ok (.iadd, 1) := by decide +kernel
theorem dX4_wordAt_50 : decode cX4_wordAt 50 = .ok (.iaload, 1) := by decide +kernel
theorem dX4_wordAt_51 : decode cX4_wordAt 51 = .ok (.ireturn, 1) := by decide +kernel
theorem dX4_level_0 : decode cX4_level 0 = .ok (.aload_n 0, 1) := by decide +kernel
theorem dX4_level_1 : decode cX4_level 1 = .ok (.iload_n 1, 1) := by decide +kernel
theorem dX4_level_2 : decode cX4_level 2 = .ok (.invokevirtual 103, 3) := by decide +kernel
theorem dX4_level_5 : decode cX4_level 5 = .ok (.ifCond .le 7, 3) := by decide +kernel
theorem dX4_level_8 : decode cX4_level 8 = .ok (.iconst 0, 1) := by decide +kernel
theorem dX4_level_9 : decode cX4_level 9 = .ok (.goto 9, 3) := by decide +kernel
theorem dX4_level_12 : decode cX4_level 12 = .ok (.aload_n 0, 1) := by decide +kernel
theorem dX4_level_13 : decode cX4_level 13 = .ok (.getfield 19, 3) := by decide +kernel
theorem dX4_level_16 : decode cX4_level 16 = .ok (.iload_n 1, 1) := by decide +kernel
theorem dX4_level_17 : decode cX4_level 17 = .ok (.iaload, 1) := by decide +kernel
theorem dX4_level_18 : decode cX4_level 18 = .ok (.ireturn, 1) := by decide +kernel
theorem dX4_levelAnew_0 : decode cX4_levelAnew 0 = .ok (.aload_n 0, 1) := by decide +kernel
theorem dX4_levelAnew_1 : decode cX4_levelAnew 1 = .ok (.iload_n 1, 1) := by decide +kernel
theorem dX4_levelAnew_2 : decode cX4_levelAnew 2 = .ok (.invokevirtual 103, 3) := by decide +kernel
theorem dX4_levelAnew_5 : decode cX4_levelAnew 5 = .ok (.ifCond .le 7, 3) := by decide +kernel
theorem dX4_levelAnew_8 : decode cX4_levelAnew 8 = .ok (.iconst 0, 1) := by decide +kernel
theorem dX4_levelAnew_9 : decode cX4_levelAnew 9 = .ok (.goto 9, 3) := by decide +kernel
theorem dX4_levelAnew_12 : decode cX4_levelAnew 12 = .ok (.aload_n 0, 1) := by decide +kernel
theorem dX4_levelAnew_13 : decode cX4_levelAnew 13 = .ok (.getfield 19, 3) := by decide +kernel
theorem dX4_levelAnew_16 : decode cX4_levelAnew 16 = .ok (.iload_n 1, 1) := by decide +kernel
theorem dX4_levelAnew_17 : decode cX4_levelAnew 17 = .ok (.iaload, 1) := by decide +kernel
theorem dX4_levelAnew_18 : decode cX4_levelAnew 18 = .ok (.ireturn, 1) := by decide +kernel
theorem dX4_kindOf_0 : decode cX4_kindOf 0 = .ok (.aload_n 0, 1) := by decide +kernel
theorem dX4_kindOf_1 : decode cX4_kindOf 1 = .ok (.getfield 19, 3) := by decide +kernel
theorem dX4_kindOf_4 : decode cX4_kindOf 4 = .ok (.iload_n 1, 1) := by decide +kernel
theorem dX4_kindOf_5 : decode cX4_kindOf 5 = .ok (.iaload, 1) := by decide +kernel
theorem dX4_kindOf_6 : decode cX4_kindOf 6 = .ok (.bipush 34, 2) := by decide +kernel
theorem dX4_kindOf_8 : decode cX4_kindOf 8 = .ok (.if_icmp .ge 8, 3) := by decide +kernel
theorem dX4_kindOf_11 : decode cX4_kindOf 11 = .ok (.bipush 101, 2) := by decide +kernel
theorem dX4_kindOf_13 : decode cX4_kindOf 13 = .ok (.goto 21, 3) := by decide +kernel
theorem dX4_kindOf_16 : decode cX4_kindOf 16 = .ok (.aload_n 0, 1) := by decide +kernel
theorem dX4_kindOf_17 : decode cX4_kindOf 17 = .ok (.getfield 19, 3) := by decide +kernel
theorem dX4_kindOf_20 : decode cX4_kindOf 20 = .ok (.iload_n 1, 1) := by decide +kernel
theorem dX4_kindOf_21 : decode cX4_kindOf 21 = .ok (.iaload, 1) := by decide +kernel
theorem dX4_kindOf_22 : decode cX4_kindOf 22 = .ok (.bipush 67, 2) := by decide +kernel
theorem dX4_kindOf_24 : decode cX4_kindOf 24 = .ok (.if_icmp .ge 8, 3) := by decide +kernel
theorem dX4_kindOf_27 : decode cX4_kindOf 27 = .ok (.bipush 109, 2) := by decide +kernel
theorem dX4_kindOf_29 : decode cX4_kindOf 29 = .ok (.goto 5, 3) := by decide +kernel
theorem dX4_kindOf_32 : decode cX4_kindOf 32 = .ok (.bipush 104, 2) := by decide +kernel
theorem dX4_kindOf_34 : decode cX4_kindOf 34 = .ok (.ireturn, 1) := by decide +kernel
theorem dX4_kind_0 : decode cX4_kind 0 = .ok (.aload_n 0, 1) := by decide +kernel
theorem dX4_kind_1 : decode cX4_kind 1 = .ok (.iload_n 1, 1) := by decide +kernel
theorem dX4_kind_2 : decode cX4_kind 2 = .ok (.invokevirtual 103, 3) := by decide +kernel
theorem dX4_kind_5 : decode cX4_kind 5 = .ok (.ifCond .le 8, 3) := by decide +kernel
theorem dX4_kind_8 : decode cX4_kind 8 = .ok (.bipush 32, 2) := by decide +kernel
theorem dX4_kind_10 : decode cX4_kind 10 = .ok (.goto 8, 3) := by decide +kernel
theorem dX4_kind_13 : decode cX4_kind 13 = .ok (.aload_n 0, 1) := by decide +kernel
theorem dX4_kind_14 : decode cX4_kind 14 = .ok (.iload_n 1, 1) := by decide +kernel
theorem dX4_kind_15 : decode cX4_kind 15 = .ok (.invokevirtual 107, 3) := by decide +kernel
theorem dX4_kind_18 : decode cX4_kind 18 = .ok (.ireturn, 1) := by decide +kernel
theorem dX4_isTyped_0 : decode cX4_isTyped 0 = .ok (.iconst 0, 1) := by decide +kernel
theorem dX4_isTyped_1 : decode cX4_isTyped 1 = .ok (.istore_n 2, 1) := by decide +kernel
theorem dX4_isTyped_2 : decode cX4_isTyped 2 = .ok (.iload_n 2, 1) := by decide +kernel
theorem dX4_isTyped_3 : decode cX4_isTyped 3 = .ok (.aload_n 0, 1) := by decide +kernel
theorem dX4_isTyped_4 : decode cX4_isTyped 4 = .ok (.getfield 89, 3) := by decide +kernel
theorem dX4_isTyped_7 : decode cX4_isTyped 7 = .ok (.if_icmp .ge 21, 3) := by decide +kernel
theorem dX4_isTyped_10 : decode cX4_isTyped 10 = .ok (.aload_n 0, 1) := by decide +kernel
theorem dX4_isTyped_11 : decode cX4_isTyped 11 = .ok (.getfield 7, 3) := by decide +kernel
theorem dX4_isTyped_14 : decode cX4_isTyped 14 = .ok (.iload_n 2, 1) := by decide +kernel
theorem dX4_isTyped_15 : decode cX4_isTyped 15 = .ok (.iaload, 1) := by decide +kernel
theorem dX4_isTyped_16 : decode cX4_isTyped 16 = .ok (.iload_n 1, 1) := by decide +kernel
theorem dX4_isTyped_17 : decode cX4_isTyped 17 = .ok (.if_icmp .ne 5, 3) := by decide +kernel
theorem dX4_isTyped_20 : decode cX4_isTyped 20 = .ok (.iconst 1, 1) := by decide +kernel
theorem dX4_isTyped_21 : decode cX4_isTyped 21 = .ok (.ireturn, 1) := by decide +kernel
theorem dX4_isTyped_22 : decode cX4_isTyped 22 = .ok (.iinc 2 1, 3) := by decide +kernel
theorem dX4_isTyped_25 : decode cX4_isTyped 25 = .ok (.goto (-23), 3) := by decide +kernel
theorem dX4_isTyped_28 : decode cX4_isTyped 28 = .ok (.iconst 0, 1) := by decide +kernel
theorem dX4_isTyped_29 : decode cX4_isTyped 29 = .ok (.ireturn, 1) := by decide +kernel
theorem dX4_hasAhead_0 : decode cX4_hasAhead 0 = .ok (.iconst 0, 1) := by decide +kernel
theorem dX4_hasAhead_1 : decode cX4_hasAhead 1 = .ok (.istore_n 3, 1) := by decide +kernel
theorem dX4_hasAhead_2 : decode cX4_hasAhead 2 = .ok (.iload_n 3, 1) := by decide +kernel
theorem dX4_hasAhead_3 : decode cX4_hasAhead 3 = .ok (.iload_n 2, 1) := by decide +kernel
theorem dX4_hasAhead_4 : decode cX4_hasAhead 4 = .ok (.if_icmp .ge 36, 3) := by decide +kernel
theorem dX4_hasAhead_7 : decode cX4_hasAhead 7 = .ok (.aload_n 0, 1) := by decide +kernel
theorem dX4_hasAhead_8 : decode cX4_hasAhead 8 = .ok (.getfield 13, 3) := by decide +kernel
theorem dX4_hasAhead_11 : decode cX4_hasAhead 11 = .ok (.bipush 6, 2) := by decide +kernel
theorem dX4_hasAhead_13 : decode cX4_hasAhead 13 = .ok (.iload_n 1, 1) := by decide +kernel
theorem dX4_hasAhead_14 : decode cX4_hasAhead 14 = .ok (.imul, 1) := by decide +kernel
theorem dX4_hasAhead_15 : decode cX4_hasAhead 15 = .ok (.iload_n 3, 1) := by decide +kernel
theorem dX4_hasAhead_16 : decode cX4_hasAhead 16 = .ok (.iadd, 1) := by decide +kernel
theorem dX4_hasAhead_17 : decode cX4_hasAhead 17 = .ok (.iaload, 1) := by decide +kernel
theorem dX4_hasAhead_18 : decode cX4_hasAhead 18 = .ok (.aload_n 0, 1) := by decide +kernel
theorem dX4_hasAhead_19 : decode cX4_hasAhead 19 = .ok (.getfield 13, 3) := by decide +kernel
theorem dX4_hasAhead_22 : decode cX4_hasAhead 22 = .ok (.bipush 6, 2) := by decide +kernel
theorem dX4_hasAhead_24 : decode cX4_hasAhead 24 = .ok (.iload_n 1, 1) := by decide +kernel
theorem dX4_hasAhead_25 : decode cX4_hasAhead 25 = .ok (.imul, 1) := by decide +kernel
theorem dX4_hasAhead_26 : decode cX4_hasAhead 26 = .ok (.iload_n 2, 1) := by decide +kernel
theorem dX4_hasAhead_27 : decode cX4_hasAhead 27 = .ok (.iadd, 1) := by decide +kernel
theorem dX4_hasAhead_28 : decode cX4_hasAhead 28 = .ok (.iaload, 1) := by decide +kernel
theorem dX4_hasAhead_29 : decode cX4_hasAhead 29 = .ok (.if_icmp .ne 5, 3) := by decide +kernel
theorem dX4_hasAhead_32 : decode cX4_hasAhead 32 = .ok (.iconst 1, 1) := by decide +kernel
theorem dX4_hasAhead_33 : decode cX4_hasAhead 33 = .ok (.ireturn, 1) := by decide +kernel
theorem dX4_hasAhead_34 : decode cX4_hasAhead 34 = .ok (.iinc 3 1, 3) := by decide +kernel
theorem dX4_hasAhead_37 : decode cX4_hasAhead 37 = .ok (.goto (-35), 3) := by decide +kernel
theorem dX4_hasAhead_40 : decode cX4_hasAhead 40 = .ok (.iconst 0, 1) := by decide +kernel
theorem dX4_hasAhead_41 : decode cX4_hasAhead 41 = .ok (.ireturn, 1) := by decide +kernel
theorem dX4_rankOf_0 : decode cX4_rankOf 0 = .ok (.iconst 0, 1) := by decide +kernel
theorem dX4_rankOf_1 : decode cX4_rankOf 1 = .ok (.istore_n 2, 1) := by decide +kernel
theorem dX4_rankOf_2 : decode cX4_rankOf 2 = .ok (.iconst 0, 1) := by decide +kernel
theorem dX4_rankOf_3 : decode cX4_rankOf 3 = .ok (.istore_n 3, 1) := by decide +kernel
theorem dX4_rankOf_4 : decode cX4_rankOf 4 = .ok (.iload_n 3, 1) := by decide +kernel
theorem dX4_rankOf_5 : decode cX4_rankOf 5 = .ok (.aload_n 0, 1) := by decide +kernel
theorem dX4_rankOf_6 : decode cX4_rankOf 6 = .ok (.getfield 16, 3) := by decide +kernel
theorem dX4_rankOf_9 : decode cX4_rankOf 9 = .ok (.iload_n 1, 1) := by decide +kernel
theorem dX4_rankOf_10 : decode cX4_rankOf 10 = .ok (.iaload, 1) := by decide +kernel
theorem dX4_rankOf_11 : decode cX4_rankOf 11 = .ok (.if_icmp .ge 48, 3) := by decide +kernel
theorem dX4_rankOf_14 : decode cX4_rankOf 14 = .ok (.aload_n 0, 1) := by decide +kernel
theorem dX4_rankOf_15 : decode cX4_rankOf 15 = .ok (.aload_n 0, 1) := by decide +kernel
theorem dX4_rankOf_16 : decode cX4_rankOf 16 = .ok (.getfield 13, 3) := by decide +kernel
theorem dX4_rankOf_19 : decode cX4_rankOf 19 = .ok (.bipush 6, 2) := by decide +kernel
theorem dX4_rankOf_21 : decode cX4_rankOf 21 = .ok (.iload_n 1, 1) := by decide +kernel
theorem dX4_rankOf_22 : decode cX4_rankOf 22 = .ok (.imul, 1) := by decide +kernel
theorem dX4_rankOf_23 : decode cX4_rankOf 23 = .ok (.iload_n 3, 1) := by decide +kernel
theorem dX4_rankOf_24 : decode cX4_rankOf 24 = .ok (.iadd, 1) := by decide +kernel
theorem dX4_rankOf_25 : decode cX4_rankOf 25 = .ok (.iaload, 1) := by decide +kernel
theorem dX4_rankOf_26 : decode cX4_rankOf 26 = .ok (.invokevirtual 111, 3) := by decide +kernel
theorem dX4_rankOf_29 : decode cX4_rankOf 29 = .ok (.ifCond .ne 6, 3) := by decide +kernel
theorem dX4_rankOf_32 : decode cX4_rankOf 32 = .ok (.goto 21, 3) := by decide +kernel
theorem dX4_rankOf_35 : decode cX4_rankOf 35 = .ok (.iload_n 2, 1) := by decide +kernel
theorem dX4_rankOf_36 : decode cX4_rankOf 36 = .ok (.aload_n 0, 1) := by decide +kernel
theorem dX4_rankOf_37 : decode cX4_rankOf 37 = .ok (.iload_n 1, 1) := by decide +kernel
theorem dX4_rankOf_38 : decode cX4_rankOf 38 = .ok (.iload_n 3, 1) := by decide +kernel
theorem dX4_rankOf_39 : decode cX4_rankOf 39 = .ok (.invokevirtual 114, 3) := by decide +kernel
theorem dX4_rankOf_42 : decode cX4_rankOf 42 = .ok (.ifCond .eq 7, 3) := by decide +kernel
theorem dX4_rankOf_45 : decode cX4_rankOf 45 = .ok (.iconst 1, 1) := by decide +kernel
theorem dX4_rankOf_46 : decode cX4_rankOf 46 = .ok (.goto 5, 3) := by decide +kernel
theorem dX4_rankOf_49 : decode cX4_rankOf 49 = .ok (.bipush 11, 2) := by decide +kernel
theorem dX4_rankOf_51 : decode cX4_rankOf 51 = .ok (.iadd, 1) := by decide +kernel
theorem dX4_rankOf_52 : decode cX4_rankOf 52 = .ok (.istore_n 2, 1) := by decide +kernel
theorem dX4_rankOf_53 : decode cX4_rankOf 53 = .ok (.iinc 3 1, 3) := by decide +kernel
theorem dX4_rankOf_56 : decode cX4_rankOf 56 = .ok (.goto (-52), 3) := by decide +kernel
theorem dX4_rankOf_59 : decode cX4_rankOf 59 = .ok (.iload_n 2, 1) := by decide +kernel
theorem dX4_rankOf_60 : decode cX4_rankOf 60 = .ok (.ireturn, 1) := by decide +kernel
theorem dX4_search_0 : decode cX4_search 0 = .ok (.aload_n 0, 1) := by decide +kernel
theorem dX4_search_1 : decode cX4_search 1 = .ok (.aload_n 0, 1) := by decide +kernel
theorem dX4_search_2 : decode cX4_search 2 = .ok (.getfield 89, 3) := by decide +kernel
theorem dX4_search_5 : decode cX4_search 5 = .ok (.ifCond .ne 7, 3) := by decide +kernel
theorem dX4_search_8 : decode cX4_search 8 = .ok (.iconst 1, 1) := by decide +kernel
theorem dX4_search_9 : decode cX4_search 9 = .ok (.goto 4, 3) := by decide +kernel
theorem dX4_search_12 : decode cX4_search 12 = .ok (.iconst 0, 1) := by decide +kernel
theorem dX4_search_13 : decode cX4_search 13 = .ok (.putfield 72, 3) := by decide +kernel
theorem dX4_search_16 : decode cX4_search 16 = .ok (.aload_n 0, 1) := by decide +kernel
theorem dX4_search_17 : decode cX4_search 17 = .ok (.getfield 72, 3) := by decide +kernel
theorem dX4_search_20 : decode cX4_search 20 = .ok (.ifCond .le 5, 3) := by decide +kernel
theorem dX4_search_23 : decode cX4_search 23 = .ok (.iconst 0, 1) := by decide +kernel
theorem dX4_search_24 : decode cX4_search 24 = .ok (.ireturn, 1) := by decide +kernel
theorem dX4_search_25 : decode cX4_search 25 = .ok (.aload_n 0, 1) := by decide +kernel
theorem dX4_search_26 : decode cX4_search 26 = .ok (.iconst 0, 1) := by decide +kernel
theorem dX4_search_27 : decode cX4_search 27 = .ok (.putfield 117, 3) := by decide +kernel
theorem dX4_search_30 : decode cX4_search 30 = .ok (.iconst 0, 1) := by decide +kernel
theorem dX4_search_31 : decode cX4_search 31 = .ok (.istore_n 1, 1) := by decide +kernel
theorem dX4_search_32 : decode cX4_search 32 = .ok (.iload_n 1, 1) := by decide +kernel
theorem dX4_search_33 : decode cX4_search 33 = .ok (.aload_n 0, 1) := by decide +kernel
theorem dX4_search_34 : decode cX4_search 34 = .ok (.getfield 76, 3) := by decide +kernel
theorem dX4_search_37 : decode cX4_search 37 = .ok (.if_icmp .ge 101, 3) := by decide +kernel
theorem dX4_search_40 : decode cX4_search 40 = .ok (.aload_n 0, 1) := by decide +kernel
theorem dX4_search_41 : decode cX4_search 41 = .ok (.iload_n 1, 1) := by decide +kernel
theorem dX4_search_42 : decode cX4_search 42 = .ok (.invokevirtual 120, 3) := by decide +kernel
theorem dX4_search_45 : decode cX4_search 45 = .ok (.istore_n 2, 1) := by decide +kernel
theorem dX4_search_46 : decode cX4_search 46 = .ok (.iload_n 2, 1) := by decide +kernel
theorem dX4_search_47 : decode cX4_search 47 = .ok (.ifCond .ne 6, 3) := by decide +kernel
theorem dX4_search_50 : decode cX4_search 50 = .ok (.goto 82, 3) := by decide +kernel
theorem dX4_search_53 : decode cX4_search 53 = .ok (.aload_n 0, 1) := by decide +kernel
theorem dX4_search_54 : decode cX4_search 54 = .ok (.getfield 117, 3) := by decide +kernel
theorem dX4_search_57 : decode cX4_search 57 = .ok (.istore_n 3, 1) := by decide +kernel
theorem dX4_search_58 : decode cX4_search 58 = .ok (.iload_n 3, 1) := by decide +kernel
theorem dX4_search_59 : decode cX4_search 59 = .ok (.ifCond .le 49, 3) := by decide +kernel
theorem dX4_search_62 : decode cX4_search 62 = .ok (.aload_n 0, 1) := by decide +kernel
theorem dX4_search_63 : decode cX4_search 63 = .ok (.getfield 31, 3) := by decide +kernel
theorem dX4_search_66 : decode cX4_search 66 = .ok (.iload_n 3, 1) := by decide +kernel
theorem dX4_search_67 : decode cX4_search 67 = .ok (.iconst 1, 1) := by decide +kernel
theorem dX4_search_68 : decode cX4_search 68 = .ok (.isub, 1) := by decide +kernel
theorem dX4_search_69 : decode cX4_search 69 = .ok (.iaload, 1) := by decide +kernel
theorem dX4_search_70 : decode cX4_search 70 = .ok (.iload_n 2, 1) := by decide +kernel
theorem dX4_search_71 : decode cX4_search 71 = .ok (.if_icmp .ge 37, 3) := by decide +kernel
theorem dX4_search_74 : decode cX4_search 74 = .ok (.aload_n 0, 1) := by decide +kernel
theorem dX4_search_75 : decode cX4_search 75 = .ok (.getfield 31, 3) := by decide +kernel
theorem dX4_search_78 : decode cX4_search 78 = .ok (.iload_n 3, 1) := by decide +kernel
theorem dX4_search_79 : decode cX4_search 79 = .ok (.aload_n 0, 1) := by decide +kernel
theorem dX4_search_80 : decode cX4_search 80 = .ok (.getfield 31, 3) := by decide +kernel
theorem dX4_search_83 : decode cX4_search 83 = .ok (.iload_n 3, 1) := by decide +kernel
theorem dX4_search_84 : decode cX4_search 84 = .ok (.iconst 1, 1) := by decide +kernel
theorem dX4_search_85 : decode cX4_search 85 = .ok (.isub, 1) := by decide +kernel
theorem dX4_search_86 : decode cX4_search 86 = .ok (.iaload, 1) := by decide +kernel
theorem dX4_search_87 : decode cX4_search 87 = .ok (.iastore, 1) := by decide +kernel
theorem dX4_search_88 : decode cX4_search 88 = .ok (.aload_n 0, 1) := by decide +kernel
theorem dX4_search_89 : decode cX4_search 89 = .ok (.getfield 28, 3) := by decide +kernel
theorem dX4_search_92 : decode cX4_search 92 = .ok (.iload_n 3, 1) := by decide +kernel
theorem dX4_search_93 : decode cX4_search 93 = .ok (.aload_n 0, 1) := by decide +kernel
theorem dX4_search_94 : decode cX4_search 94 = .ok (.getfield 28, 3) := by decide +kernel
theorem dX4_search_97 : decode cX4_search 97 = .ok (.iload_n 3, 1) := by decide +kernel
theorem dX4_search_98 : decode cX4_search 98 = .ok (.iconst 1, 1) := by decide +kernel
theorem dX4_search_99 : decode cX4_search 99 = .ok (.isub, 1) := by decide +kernel
theorem dX4_search_100 : decode cX4_search 100 = .ok (.iaload, 1) := by decide +kernel
theorem dX4_search_101 : decode cX4_search 101 = .ok (.iastore, 1) := by decide +kernel
theorem dX4_search_102 : decode cX4_search 102 = .ok (.iinc 3 (-1), 3) := by decide +kernel
theorem dX4_search_105 : decode cX4_search 105 = .ok (.goto (-47), 3) := by decide +kernel
theorem dX4_search_108 : decode cX4_search 108 = .ok (.aload_n 0, 1) := by decide +kernel
theorem dX4_search_109 : decode cX4_search 109 = .ok (.getfield 31, 3) := by decide +kernel
theorem dX4_search_112 : decode cX4_search 112 = .ok (.iload_n 3, 1) := by decide +kernel
theorem dX4_search_113 : decode cX4_search 113 = .ok (.iload_n 2, 1) := by decide +kernel
theorem dX4_search_114 : decode cX4_search 114 = .ok (.iastore, 1) := by decide +kernel
theorem dX4_search_115 : decode cX4_search 115 = .ok (.aload_n 0, 1) := by decide +kernel
theorem dX4_search_116 : decode cX4_search 116 = .ok (.getfield 28, 3) := by decide +kernel
theorem dX4_search_119 : decode cX4_search 119 = .ok (.iload_n 3, 1) := by decide +kernel
theorem dX4_search_120 : decode cX4_search 120 = .ok (.iload_n 1, 1) := by decide +kernel
theorem dX4_search_121 : decode cX4_search 121 = .ok (.iastore, 1) := by decide +kernel
theorem dX4_search_122 : decode cX4_search 122 = .ok (.aload_n 0, 1) := by decide +kernel
theorem dX4_search_123 : decode cX4_search 123 = .ok (.dup, 1) := by decide +kernel
theorem dX4_search_124 : decode cX4_search 124 = .ok (.getfield 117, 3) := by decide +kernel
theorem dX4_search_127 : decode cX4_search 127 = .ok (.iconst 1, 1) := by decide +kernel
theorem dX4_search_128 : decode cX4_search 128 = .ok (.iadd, 1) := by decide +kernel
theorem dX4_search_129 : decode cX4_search 129 = .ok (.putfield 117, 3) := by decide +kernel
theorem dX4_search_132 : decode cX4_search 132 = .ok (.iinc 1 1, 3) := by decide +kernel
theorem dX4_search_135 : decode cX4_search 135 = .ok (.goto (-103), 3) := by decide +kernel
theorem dX4_search_138 : decode cX4_search 138 = .ok (.aload_n 0, 1) := by decide +kernel
theorem dX4_search_139 : decode cX4_search 139 = .ok (.getfield 117, 3) := by decide +kernel
theorem dX4_search_142 : decode cX4_search 142 = .ok (.ireturn, 1) := by decide +kernel
theorem dX4_hitAt_0 : decode cX4_hitAt 0 = .ok (.aload_n 0, 1) := by decide +kernel
theorem dX4_hitAt_1 : decode cX4_hitAt 1 = .ok (.iload_n 1, 1) := by decide +kernel
theorem dX4_hitAt_2 : decode cX4_hitAt 2 = .ok (.iconst 0, 1) := by decide +kernel
theorem dX4_hitAt_3 : decode cX4_hitAt 3 = .ok (.aload_n 0, 1) := by decide +kernel
theorem dX4_hitAt_4 : decode cX4_hitAt 4 = .ok (.getfield 117, 3) := by decide +kernel
theorem dX4_hitAt_7 : decode cX4_hitAt 7 = .ok (.iconst 1, 1) := by decide +kernel
theorem dX4_hitAt_8 : decode cX4_hitAt 8 = .ok (.isub, 1) := by decide +kernel
theorem dX4_hitAt_9 : decode cX4_hitAt 9 = .ok (.invokestatic 79, 3) := by decide +kernel
theorem dX4_hitAt_12 : decode cX4_hitAt 12 = .ok (.ifCond .eq 7, 3) := by decide +kernel
theorem dX4_hitAt_15 : decode cX4_hitAt 15 = .ok (.iconst 0, 1) := by decide +kernel
theorem dX4_hitAt_16 : decode cX4_hitAt 16 = .ok (.goto 4, 3) := by decide +kernel
theorem dX4_hitAt_19 : decode cX4_hitAt 19 = .ok (.iconst 1, 1) := by decide +kernel
theorem dX4_hitAt_20 : decode cX4_hitAt 20 = .ok (.putfield 72, 3) := by decide +kernel
theorem dX4_hitAt_23 : decode cX4_hitAt 23 = .ok (.aload_n 0, 1) := by decide +kernel
theorem dX4_hitAt_24 : decode cX4_hitAt 24 = .ok (.getfield 72, 3) := by decide +kernel
theorem dX4_hitAt_27 : decode cX4_hitAt 27 = .ok (.ifCond .le 7, 3) := by decide +kernel
theorem dX4_hitAt_30 : decode cX4_hitAt 30 = .ok (.iconst 0, 1) := by decide +kernel
theorem dX4_hitAt_31 : decode cX4_hitAt 31 = .ok (.goto 9, 3) := by decide +kernel
theorem dX4_hitAt_34 : decode cX4_hitAt 34 = .ok (.aload_n 0, 1) := by decide +kernel
theorem dX4_hitAt_35 : decode cX4_hitAt 35 = .ok (.getfield 28, 3) := by decide +kernel
theorem dX4_hitAt_38 : decode cX4_hitAt 38 = .ok (.iload_n 1, 1) := by decide +kernel
theorem dX4_hitAt_39 : decode cX4_hitAt 39 = .ok (.iaload, 1) := by decide +kernel
theorem dX4_hitAt_40 : decode cX4_hitAt 40 = .ok (.ireturn, 1) := by decide +kernel
theorem dX4_rankAt_0 : decode cX4_rankAt 0 = .ok (.aload_n 0, 1) := by decide +kernel
theorem dX4_rankAt_1 : decode cX4_rankAt 1 = .ok (.iload_n 1, 1) := by decide +kernel
theorem dX4_rankAt_2 : decode cX4_rankAt 2 = .ok (.iconst 0, 1) := by decide +kernel
theorem dX4_rankAt_3 : decode cX4_rankAt 3 = .ok (.aload_n 0, 1) := by decide +kernel
theorem dX4_rankAt_4 : decode cX4_rankAt 4 = .ok (.getfield 117, 3) := by decide +kernel
theorem dX4_rankAt_7 : decode cX4_rankAt 7 = .ok (.iconst 1, 1) := by decide +kernel
theorem dX4_rankAt_8 : decode cX4_rankAt 8 = .ok (.isub, 1) := by decide +kernel
theorem dX4_rankAt_9 : decode cX4_rankAt 9 = .ok (.invokestatic 79, 3) := by decide +kernel
theorem dX4_rankAt_12 : decode cX4_rankAt 12 = .ok (.ifCond .eq 7, 3) := by decide +kernel
theorem dX4_rankAt_15 : decode cX4_rankAt 15 = .ok (.iconst 0, 1) := by decide +kernel
theorem dX4_rankAt_16 : decode cX4_rankAt 16 = .ok (.goto 4, 3) := by decide +kernel
theorem dX4_rankAt_19 : decode cX4_rankAt 19 = .ok (.iconst 1, 1) := by decide +kernel
theorem dX4_rankAt_20 : decode cX4_rankAt 20 = .ok (.putfield 72, 3) := by decide +kernel
theorem dX4_rankAt_23 : decode cX4_rankAt 23 = .ok (.aload_n 0, 1) := by decide +kernel
theorem dX4_rankAt_24 : decode cX4_rankAt 24 = .ok (.getfield 72, 3) := by decide +kernel
theorem dX4_rankAt_27 : decode cX4_rankAt 27 = .ok (.ifCond .le 7, 3) := by decide +kernel
theorem dX4_rankAt_30 : decode cX4_rankAt 30 = .ok (.iconst 0, 1) := by decide +kernel
theorem dX4_rankAt_31 : decode cX4_rankAt 31 = .ok (.goto 9, 3) := by decide +kernel
theorem dX4_rankAt_34 : decode cX4_rankAt 34 = .ok (.aload_n 0, 1) := by decide +kernel
theorem dX4_rankAt_35 : decode cX4_rankAt 35 = .ok (.getfield 31, 3) := by decide +kernel
theorem dX4_rankAt_38 : decode cX4_rankAt 38 = .ok (.iload_n 1, 1) := by decide +kernel
theorem dX4_rankAt_39 : decode cX4_rankAt 39 = .ok (.iaload, 1) := by decide +kernel
theorem dX4_rankAt_40 : decode cX4_rankAt 40 = .ok (.ireturn, 1) := by decide +kernel
theorem dX4_week_0 : decode cX4_week 0 = .ok (.aload_n 0, 1) := by decide +kernel
theorem dX4_week_1 : decode cX4_week 1 = .ok (.aload_n 0, 1) := by decide +kernel
theorem dX4_week_2 : decode cX4_week 2 = .ok (.getfield 123, 3) := by decide +kernel
theorem dX4_week_5 : decode cX4_week 5 = .ok (.invokevirtual 126, 3) := by decide +kernel
theorem dX4_week_8 : decode cX4_week 8 = .ok (.ireturn, 1) := by decide +kernel
theorem dX4_nextWeek_0 : decode cX4_nextWeek 0 = .ok (.aload_n 0, 1) := by decide +kernel
theorem dX4_nextWeek_1 : decode cX4_nextWeek 1 = .ok (.aload_n 0, 1) := by decide +kernel
theorem dX4_nextWeek_2 : decode cX4_nextWeek 2 = .ok (.getfield 123, 3) := by decide +kernel
theorem dX4_nextWeek_5 : decode cX4_nextWeek 5 = .ok (.sipush 999, 3) := by decide +kernel
theorem dX4_nextWeek_8 : decode cX4_nextWeek 8 = .ok (.if_icmp .ne 7, 3) := by decide +kernel
theorem dX4_nextWeek_11 : decode cX4_nextWeek 11 = .ok (.iconst 1, 1) := by decide +kernel
theorem dX4_nextWeek_12 : decode cX4_nextWeek 12 = .ok (.goto 4, 3) := by decide +kernel
theorem dX4_nextWeek_15 : decode cX4_nextWeek 15 = .ok (.iconst 0, 1) := by decide +kernel
theorem dX4_nextWeek_16 : decode cX4_nextWeek 16 = .ok (.putfield 72, 3) := by decide +kernel
theorem dX4_nextWeek_19 : decode cX4_nextWeek 19 = .ok (.aload_n 0, 1) := by decide +kernel
theorem dX4_nextWeek_20 : decode cX4_nextWeek 20 = .ok (.getfield 72, 3) := by decide +kernel
theorem dX4_nextWeek_23 : decode cX4_nextWeek 23 = .ok (.ifCond .le 5, 3) := by decide +kernel
theorem dX4_nextWeek_26 : decode cX4_nextWeek 26 = .ok (.iconst 0, 1) := by decide +kernel
theorem dX4_nextWeek_27 : decode cX4_nextWeek 27 = .ok (.ireturn, 1) := by decide +kernel
theorem dX4_nextWeek_28 : decode cX4_nextWeek 28 = .ok (.aload_n 0, 1) := by decide +kernel
theorem dX4_nextWeek_29 : decode cX4_nextWeek 29 = .ok (.dup, 1) := by decide +kernel
theorem dX4_nextWeek_30 : decode cX4_nextWeek 30 = .ok (.getfield 123, 3) := by decide +kernel
theorem dX4_nextWeek_33 : decode cX4_nextWeek 33 = .ok (.iconst 1, 1) := by decide +kernel
theorem dX4_nextWeek_34 : decode cX4_nextWeek 34 = .ok (.iadd, 1) := by decide +kernel
theorem dX4_nextWeek_35 : decode cX4_nextWeek 35 = .ok (.putfield 123, 3) := by decide +kernel
theorem dX4_nextWeek_38 : decode cX4_nextWeek 38 = .ok (.aload_n 0, 1) := by decide +kernel
theorem dX4_nextWeek_39 : decode cX4_nextWeek 39 = .ok (.invokevirtual 92, 3) := by decide +kernel
theorem dX4_nextWeek_42 : decode cX4_nextWeek 42 = .ok (.aload_n 0, 1) := by decide +kernel
theorem dX4_nextWeek_43 : decode cX4_nextWeek 43 = .ok (.getfield 123, 3) := by decide +kernel
theorem dX4_nextWeek_46 : decode cX4_nextWeek 46 = .ok (.ireturn, 1) := by decide +kernel
theorem dX4_isKind_0 : decode cX4_isKind 0 = .ok (.iload_n 0, 1) := by decide +kernel
theorem dX4_isKind_1 : decode cX4_isKind 1 = .ok (.bipush 101, 2) := by decide +kernel
theorem dX4_isKind_3 : decode cX4_isKind 3 = .ok (.if_icmp .eq 15, 3) := by decide +kernel
theorem dX4_isKind_6 : decode cX4_isKind 6 = .ok (.iload_n 0, 1) := by decide +kernel
theorem dX4_isKind_7 : decode cX4_isKind 7 = .ok (.bipush 109, 2) := by decide +kernel
theorem dX4_isKind_9 : decode cX4_isKind 9 = .ok (.if_icmp .eq 9, 3) := by decide +kernel
theorem dX4_isKind_12 : decode cX4_isKind 12 = .ok (.iload_n 0, 1) := by decide +kernel
theorem dX4_isKind_13 : decode cX4_isKind 13 = .ok (.bipush 104, 2) := by decide +kernel
theorem dX4_isKind_15 : decode cX4_isKind 15 = .ok (.if_icmp .ne 7, 3) := by decide +kernel
theorem dX4_isKind_18 : decode cX4_isKind 18 = .ok (.iconst 1, 1) := by decide +kernel
theorem dX4_isKind_19 : decode cX4_isKind 19 = .ok (.goto 4, 3) := by decide +kernel
theorem dX4_isKind_22 : decode cX4_isKind 22 = .ok (.iconst 0, 1) := by decide +kernel
theorem dX4_isKind_23 : decode cX4_isKind 23 = .ok (.ireturn, 1) := by decide +kernel
theorem dX4_plan_0 : decode cX4_plan 0 = .ok (.aload_n 0, 1) := by decide +kernel
theorem dX4_plan_1 : decode cX4_plan 1 = .ok (.iload_n 1, 1) := by decide +kernel
theorem dX4_plan_2 : decode cX4_plan 2 = .ok (.aload_n 0, 1) := by decide +kernel
theorem dX4_plan_3 : decode cX4_plan 3 = .ok (.getfield 123, 3) := by decide +kernel
theorem dX4_plan_6 : decode cX4_plan 6 = .ok (.sipush 999, 3) := by decide +kernel
theorem dX4_plan_9 : decode cX4_plan 9 = .ok (.invokestatic 79, 3) := by decide +kernel
theorem dX4_plan_12 : decode cX4_plan 12 = .ok (.ifCond .eq 20, 3) := by decide +kernel
theorem dX4_plan_15 : decode cX4_plan 15 = .ok (.iload_n 2, 1) := by decide +kernel
theorem dX4_plan_16 : decode cX4_plan 16 = .ok (.invokestatic 129, 3) := by decide +kernel
theorem dX4_plan_19 : decode cX4_plan 19 = .ok (.ifCond .eq 13, 3) := by decide +kernel
theorem dX4_plan_22 : decode cX4_plan 22 = .ok (.iload_n 3, 1) := by decide +kernel
theorem dX4_plan_23 : decode cX4_plan 23 = .ok (.iconst 1, 1) := by decide +kernel
theorem dX4_plan_24 : decode cX4_plan 24 = .ok (.bipush 9, 2) := by decide +kernel
theorem dX4_plan_26 : decode cX4_plan 26 = .ok (.invokestatic 79, 3) := by decide +kernel
theorem dX4_plan_29 : decode cX4_plan 29 = .ok (.ifCond .ne 7, 3) := by decide +kernel
theorem dX4_plan_32 : decode cX4_plan 32 = .ok (.iconst 1, 1) := by decide +kernel
theorem dX4_plan_33 : decode cX4_plan 33 = .ok (.goto 17, 3) := by decide +kernel
theorem dX4_plan_36 : decode cX4_plan 36 = .ok (.aload_n 0, 1) := by decide +kernel
theorem dX4_plan_37 : decode cX4_plan 37 = .ok (.getfield 83, 3) := by decide +kernel
theorem dX4_plan_40 : decode cX4_plan 40 = .ok (.bipush 12, 2) := by decide +kernel
theorem dX4_plan_42 : decode cX4_plan 42 = .ok (.if_icmp .ne 7, 3) := by decide +kernel
theorem dX4_plan_45 : decode cX4_plan 45 = .ok (.iconst 2, 1) := by decide +kernel
theorem dX4_plan_46 : decode cX4_plan 46 = .ok (.goto 4, 3) := by decide +kernel
theorem dX4_plan_49 : decode cX4_plan 49 = .ok (.iconst 0, 1) := by decide +kernel
theorem dX4_plan_50 : decode cX4_plan 50 = .ok (.putfield 72, 3) := by decide +kernel
theorem dX4_plan_53 : decode cX4_plan 53 = .ok (.aload_n 0, 1) := by decide +kernel
theorem dX4_plan_54 : decode cX4_plan 54 = .ok (.getfield 72, 3) := by decide +kernel
theorem dX4_plan_57 : decode cX4_plan 57 = .ok (.ifCond .le 5, 3) := by decide +kernel
theorem dX4_plan_60 : decode cX4_plan 60 = .ok (.iconst 0, 1) := by decide +kernel
theorem dX4_plan_61 : decode cX4_plan 61 = .ok (.ireturn, 1) := by decide +kernel
theorem dX4_plan_62 : decode cX4_plan 62 = .ok (.aload_n 0, 1) := by decide +kernel
theorem dX4_plan_63 : decode cX4_plan 63 = .ok (.getfield 34, 3) := by decide +kernel
theorem dX4_plan_66 : decode cX4_plan 66 = .ok (.aload_n 0, 1) := by decide +kernel
theorem dX4_plan_67 : decode cX4_plan 67 = .ok (.getfield 83, 3) := by decide +kernel
theorem dX4_plan_70 : decode cX4_plan 70 = .ok (.iload_n 1, 1) := by decide +kernel
theorem dX4_plan_71 : decode cX4_plan 71 = .ok (.iastore, 1) := by decide +kernel
theorem dX4_plan_72 : decode cX4_plan 72 = .ok (.aload_n 0, 1) := by decide +kernel
theorem dX4_plan_73 : decode cX4_plan 73 = .ok (.getfield 46, 3) := by decide +kernel
theorem dX4_plan_76 : decode cX4_plan 76 = .ok (.aload_n 0, 1) := by decide +kernel
theorem dX4_plan_77 : decode cX4_plan 77 = .ok (.getfield 83, 3) := by decide +kernel
theorem dX4_plan_80 : decode cX4_plan 80 = .ok (.iload_n 2, 1) := by decide +kernel
theorem dX4_plan_81 : decode cX4_plan 81 = .ok (.castore, 1) := by decide +kernel
theorem dX4_plan_82 : decode cX4_plan 82 = .ok (.aload_n 0, 1) := by decide +kernel
theorem dX4_plan_83 : decode cX4_plan 83 = .ok (.getfield 37, 3) := by decide +kernel
theorem dX4_plan_86 : decode cX4_plan 86 = .ok (.aload_n 0, 1) := by decide +kernel
theorem dX4_plan_87 : decode cX4_plan 87 = .ok (.getfield 83, 3) := by decide +kernel
theorem dX4_plan_90 : decode cX4_plan 90 = .ok (.iload_n 3, 1) := by decide +kernel
theorem dX4_plan_91 : decode cX4_plan 91 = .ok (.iastore, 1) := by decide +kernel
theorem dX4_plan_92 : decode cX4_plan 92 = .ok (.aload_n 0, 1) := by decide +kernel
theorem dX4_plan_93 : decode cX4_plan 93 = .ok (.dup, 1) := by decide +kernel
theorem dX4_plan_94 : decode cX4_plan 94 = .ok (.getfield 83, 3) := by decide +kernel
theorem dX4_plan_97 : decode cX4_plan 97 = .ok (.iconst 1, 1) := by decide +kernel
theorem dX4_plan_98 : decode cX4_plan 98 = .ok (.iadd, 1) := by decide +kernel
theorem dX4_plan_99 : decode cX4_plan 99 = .ok (.putfield 83, 3) := by decide +kernel
theorem dX4_plan_102 : decode cX4_plan 102 = .ok (.aload_n 0, 1) := by decide +kernel
theorem dX4_plan_103 : decode cX4_plan 103 = .ok (.invokevirtual 92, 3) := by decide +kernel
theorem dX4_plan_106 : decode cX4_plan 106 = .ok (.aload_n 0, 1) := by decide +kernel
theorem dX4_plan_107 : decode cX4_plan 107 = .ok (.getfield 83, 3) := by decide +kernel
theorem dX4_plan_110 : decode cX4_plan 110 = .ok (.iconst 1, 1) := by decide +kernel
theorem dX4_plan_111 : decode cX4_plan 111 = .ok (.isub, 1) := by decide +kernel
theorem dX4_plan_112 : decode cX4_plan 112 = .ok (.ireturn, 1) := by decide +kernel
theorem dX4_isInForce_0 : decode cX4_isInForce 0 = .ok (.aload_n 0, 1) := by decide +kernel
theorem dX4_isInForce_1 : decode cX4_isInForce 1 = .ok (.getfield 53, 3) := by decide +kernel
theorem dX4_isInForce_4 : decode cX4_isInForce 4 = .ok (.iload_n 1, 1) := by decide +kernel
theorem dX4_isInForce_5 : decode cX4_isInForce 5 = .ok (.baload, 1) := by decide +kernel
theorem dX4_isInForce_6 : decode cX4_isInForce 6 = .ok (.ifCond .ne 20, 3) := by decide +kernel
theorem dX4_isInForce_9 : decode cX4_isInForce 9 = .ok (.aload_n 0, 1) := by decide +kernel
theorem dX4_isInForce_10 : decode cX4_isInForce 10 = .ok (.getfield 34, 3) := by decide +kernel
theorem dX4_isInForce_13 : decode cX4_isInForce 13 = .ok (.iload_n 1, 1) := by decide +kernel
theorem dX4_isInForce_14 : decode cX4_isInForce 14 = .ok (.iaload, 1) := by decide +kernel
theorem dX4_isInForce_15 : decode cX4_isInForce 15 = .ok (.aload_n 0, 1) := by decide +kernel
theorem dX4_isInForce_16 : decode cX4_isInForce 16 = .ok (.getfield 123, 3) := by decide +kernel
theorem dX4_isInForce_19 : decode cX4_isInForce 19 = .ok (.if_icmp .lt 7, 3) := by decide +kernel
theorem dX4_isInForce_22 : decode cX4_isInForce 22 = .ok (.iconst 1, 1) := by decide +kernel
theorem dX4_isInForce_23 : decode cX4_isInForce 23 = .ok (.goto 4, 3) := by decide +kernel
theorem dX4_isInForce_26 : decode cX4_isInForce 26 = .ok (.iconst 0, 1) := by decide +kernel
theorem dX4_isInForce_27 : decode cX4_isInForce 27 = .ok (.ireturn, 1) := by decide +kernel
theorem dX4_heldBy_0 : decode cX4_heldBy 0 = .ok (.aload_n 0, 1) := by decide +kernel
theorem dX4_heldBy_1 : decode cX4_heldBy 1 = .ok (.iload_n 1, 1) := by decide +kernel
theorem dX4_heldBy_2 : decode cX4_heldBy 2 = .ok (.invokevirtual 133, 3) := by decide +kernel
theorem dX4_heldBy_5 : decode cX4_heldBy 5 = .ok (.ifCond .eq 12, 3) := by decide +kernel
theorem dX4_heldBy_8 : decode cX4_heldBy 8 = .ok (.aload_n 0, 1) := by decide +kernel
theorem dX4_heldBy_9 : decode cX4_heldBy 9 = .ok (.getfield 43, 3) := by decide +kernel
theorem dX4_heldBy_12 : decode cX4_heldBy 12 = .ok (.iload_n 1, 1) := by decide +kernel
theorem dX4_heldBy_13 : decode cX4_heldBy 13 = .ok (.iaload, 1) := by decide +kernel
theorem dX4_heldBy_14 : decode cX4_heldBy 14 = .ok (.goto 4, 3) := by decide +kernel
theorem dX4_heldBy_17 : decode cX4_heldBy 17 = .ok (.iconst 0, 1) := by decide +kernel
theorem dX4_heldBy_18 : decode cX4_heldBy 18 = .ok (.ireturn, 1) := by decide +kernel
theorem dX4_drop_0 : decode cX4_drop 0 = .ok (.aload_n 0, 1) := by decide +kernel
theorem dX4_drop_1 : decode cX4_drop 1 = .ok (.aload_n 0, 1) := by decide +kernel
theorem dX4_drop_2 : decode cX4_drop 2 = .ok (.iload_n 1, 1) := by decide +kernel
theorem dX4_drop_3 : decode cX4_drop 3 = .ok (.invokevirtual 136, 3) := by decide +kernel
theorem dX4_drop_6 : decode cX4_drop 6 = .ok (.ifCond .ne 7, 3) := by decide +kernel
theorem dX4_drop_9 : decode cX4_drop 9 = .ok (.iconst 1, 1) := by decide +kernel
theorem dX4_drop_10 : decode cX4_drop 10 = .ok (.goto 17, 3) := by decide +kernel
theorem dX4_drop_13 : decode cX4_drop 13 = .ok (.aload_n 0, 1) := by decide +kernel
theorem dX4_drop_14 : decode cX4_drop 14 = .ok (.getfield 53, 3) := by decide +kernel
theorem dX4_drop_17 : decode cX4_drop 17 = .ok (.iload_n 1, 1) := by decide +kernel
theorem dX4_drop_18 : decode cX4_drop 18 = .ok (.baload, 1) := by decide +kernel
theorem dX4_drop_19 : decode cX4_drop 19 = .ok (.ifCond .eq 7, 3) := by decide +kernel
theorem dX4_drop_22 : decode cX4_drop 22 = .ok (.iconst 2, 1) := by decide +kernel
theorem dX4_drop_23 : decode cX4_drop 23 = .ok (.goto 4, 3) := by decide +kernel
theorem dX4_drop_26 : decode cX4_drop 26 = .ok (.iconst 0, 1) := by decide +kernel
theorem dX4_drop_27 : decode cX4_drop 27 = .ok (.putfield 72, 3) := by decide +kernel
theorem dX4_drop_30 : decode cX4_drop 30 = .ok (.aload_n 0, 1) := by decide +kernel
theorem dX4_drop_31 : decode cX4_drop 31 = .ok (.getfield 72, 3) := by decide +kernel
theorem dX4_drop_34 : decode cX4_drop 34 = .ok (.ifCond .le 5, 3) := by decide +kernel
theorem dX4_drop_37 : decode cX4_drop 37 = .ok (.iconst 0, 1) := by decide +kernel
theorem dX4_drop_38 : decode cX4_drop 38 = .ok (.ireturn, 1) := by decide +kernel
theorem dX4_drop_39 : decode cX4_drop 39 = .ok (.aload_n 0, 1) := by decide +kernel
theorem dX4_drop_40 : decode cX4_drop 40 = .ok (.iload_n 1, 1) := by decide +kernel
theorem dX4_drop_41 : decode cX4_drop 41 = .ok (.invokevirtual 139, 3) := by decide +kernel
theorem dX4_drop_44 : decode cX4_drop 44 = .ok (.istore_n 2, 1) := by decide +kernel
theorem dX4_drop_45 : decode cX4_drop 45 = .ok (.aload_n 0, 1) := by decide +kernel
theorem dX4_drop_46 : decode cX4_drop 46 = .ok (.getfield 53, 3) := by decide +kernel
theorem dX4_drop_49 : decode cX4_drop 49 = .ok (.iload_n 1, 1) := by decide +kernel
theorem dX4_drop_50 : decode cX4_drop 50 = .ok (.iconst 1, 1) := by decide +kernel
theorem dX4_drop_51 : decode cX4_drop 51 = .ok (.bastore, 1) := by decide +kernel
theorem dX4_drop_52 : decode cX4_drop 52 = .ok (.aload_n 0, 1) := by decide +kernel
theorem dX4_drop_53 : decode cX4_drop 53 = .ok (.invokevirtual 92, 3) := by decide +kernel
theorem dX4_drop_56 : decode cX4_drop 56 = .ok (.iload_n 2, 1) := by decide +kernel
theorem dX4_drop_57 : decode cX4_drop 57 = .ok (.ireturn, 1) := by decide +kernel
theorem dX4_wrongPlan_0 : decode cX4_wrongPlan 0 = .ok (.aload_n 0, 1) := by decide +kernel
theorem dX4_wrongPlan_1 : decode cX4_wrongPlan 1 = .ok (.aload_n 0, 1) := by decide +kernel
theorem dX4_wrongPlan_2 : decode cX4_wrongPlan 2 = .ok (.iload_n 1, 1) := by decide +kernel
theorem dX4_wrongPlan_3 : decode cX4_wrongPlan 3 = .ok (.invokevirtual 136, 3) := by decide +kernel
theorem dX4_wrongPlan_6 : decode cX4_wrongPlan 6 = .ok (.ifCond .eq 7, 3) := by decide +kernel
theorem dX4_wrongPlan_9 : decode cX4_wrongPlan 9 = .ok (.iconst 0, 1) := by decide +kernel
theorem dX4_wrongPlan_10 : decode cX4_wrongPlan 10 = .ok (.goto 4, 3) := by decide +kernel
theorem dX4_wrongPlan_13 : decode cX4_wrongPlan 13 = .ok (.iconst 1, 1) := by decide +kernel
theorem dX4_wrongPlan_14 : decode cX4_wrongPlan 14 = .ok (.putfield 72, 3) := by decide +kernel
theorem dX4_wrongPlan_17 : decode cX4_wrongPlan 17 = .ok (.aload_n 0, 1) := by decide +kernel
theorem dX4_wrongPlan_18 : decode cX4_wrongPlan 18 = .ok (.getfield 72, 3) := by decide +kernel
theorem dX4_wrongPlan_21 : decode cX4_wrongPlan 21 = .ok (.ireturn, 1) := by decide +kernel
theorem dX4_held_0 : decode cX4_held 0 = .ok (.aload_n 0, 1) := by decide +kernel
theorem dX4_held_1 : decode cX4_held 1 = .ok (.iload_n 1, 1) := by decide +kernel
theorem dX4_held_2 : decode cX4_held 2 = .ok (.invokevirtual 142, 3) := by decide +kernel
theorem dX4_held_5 : decode cX4_held 5 = .ok (.ifCond .le 7, 3) := by decide +kernel
theorem dX4_held_8 : decode cX4_held 8 = .ok (.iconst 0, 1) := by decide +kernel
theorem dX4_held_9 : decode cX4_held 9 = .ok (.goto 8, 3) := by decide +kernel
theorem dX4_held_12 : decode cX4_held 12 = .ok (.aload_n 0, 1) := by decide +kernel
theorem dX4_held_13 : decode cX4_held 13 = .ok (.iload_n 1, 1) := by decide +kernel
theorem dX4_held_14 : decode cX4_held 14 = .ok (.invokevirtual 139, 3) := by decide +kernel
theorem dX4_held_17 : decode cX4_held 17 = .ok (.ireturn, 1) := by decide +kernel
theorem dX4_heldAt_0 : decode cX4_heldAt 0 = .ok (.aload_n 0, 1) := by decide +kernel
theorem dX4_heldAt_1 : decode cX4_heldAt 1 = .ok (.iload_n 1, 1) := by decide +kernel
theorem dX4_heldAt_2 : decode cX4_heldAt 2 = .ok (.invokevirtual 142, 3) := by decide +kernel
theorem dX4_heldAt_5 : decode cX4_heldAt 5 = .ok (.ifCond .ne 23, 3) := by decide +kernel
theorem dX4_heldAt_8 : decode cX4_heldAt 8 = .ok (.iload_n 2, 1) := by decide +kernel
theorem dX4_heldAt_9 : decode cX4_heldAt 9 = .ok (.iconst 0, 1) := by decide +kernel
theorem dX4_heldAt_10 : decode cX4_heldAt 10 = .ok (.aload_n 0, 1) := by decide +kernel
theorem dX4_heldAt_11 : decode cX4_heldAt 11 = .ok (.iload_n 1, 1) := by decide +kernel
theorem dX4_heldAt_12 : decode cX4_heldAt 12 = .ok (.invokevirtual 139, 3) := by decide +kernel
theorem dX4_heldAt_15 : decode cX4_heldAt 15 = .ok (.iconst 1, 1) := by decide +kernel
theorem dX4_heldAt_16 : decode cX4_heldAt 16 = .ok (.isub, 1) := by decide +kernel
theorem dX4_heldAt_17 : decode cX4_heldAt 17 = .ok (.invokestatic 79, 3) := by decide +kernel
theorem dX4_heldAt_20 : decode cX4_heldAt 20 = .ok (.ifCond .ne 8, 3) := by decide +kernel
theorem dX4_heldAt_23 : decode cX4_heldAt 23 = .ok (.aload_n 0, 1) := by decide +kernel
theorem dX4_heldAt_24 : decode cX4_heldAt 24 = .ok (.iconst 2, 1) := by decide +kernel
theorem dX4_heldAt_25 : decode cX4_heldAt 25 = .ok (.putfield 72, 3) := by decide +kernel
theorem dX4_heldAt_28 : decode cX4_heldAt 28 = .ok (.aload_n 0, 1) := by decide +kernel
theorem dX4_heldAt_29 : decode cX4_heldAt 29 = .ok (.getfield 72, 3) := by decide +kernel
theorem dX4_heldAt_32 : decode cX4_heldAt 32 = .ok (.ifCond .le 7, 3) := by decide +kernel
theorem dX4_heldAt_35 : decode cX4_heldAt 35 = .ok (.iconst 0, 1) := by decide +kernel
theorem dX4_heldAt_36 : decode cX4_heldAt 36 = .ok (.goto 14, 3) := by decide +kernel
theorem dX4_heldAt_39 : decode cX4_heldAt 39 = .ok (.aload_n 0, 1) := by decide +kernel
theorem dX4_heldAt_40 : decode cX4_heldAt 40 = .ok (.getfield 40, 3) := by decide +kernel
theorem dX4_heldAt_43 : decode cX4_heldAt 43 = .ok (.bipush 9, 2) := by decide +kernel
theorem dX4_heldAt_45 : decode cX4_heldAt 45 = .ok (.iload_n 1, 1) := by decide +kernel
theorem dX4_heldAt_46 : decode cX4_heldAt 46 = .ok (.imul, 1) := by decide +kernel
theorem dX4_heldAt_47 : decode cX4_heldAt 47 = .ok (.iload_n 2, 1) := by decide +kernel
theorem dX4_heldAt_48 : decode cX4_heldAt 48 = .ok (.iadd, 1) := by decide +kernel
theorem dX4_heldAt_49 : decode cX4_heldAt 49 = .ok (.iaload, 1) := by decide +kernel
theorem dX4_heldAt_50 : decode cX4_heldAt 50 = .ok (.ireturn, 1) := by decide +kernel
theorem dX4_lacks_0 : decode cX4_lacks 0 = .ok (.aload_n 0, 1) := by decide +kernel
theorem dX4_lacks_1 : decode cX4_lacks 1 = .ok (.iload_n 1, 1) := by decide +kernel
theorem dX4_lacks_2 : decode cX4_lacks 2 = .ok (.invokevirtual 142, 3) := by decide +kernel
theorem dX4_lacks_5 : decode cX4_lacks 5 = .ok (.ifCond .gt 11, 3) := by decide +kernel
theorem dX4_lacks_8 : decode cX4_lacks 8 = .ok (.aload_n 0, 1) := by decide +kernel
theorem dX4_lacks_9 : decode cX4_lacks 9 = .ok (.iload_n 1, 1) := by decide +kernel
theorem dX4_lacks_10 : decode cX4_lacks 10 = .ok (.invokevirtual 133, 3) := by decide +kernel
theorem dX4_lacks_13 : decode cX4_lacks 13 = .ok (.ifCond .ne 7, 3) := by decide +kernel
theorem dX4_lacks_16 : decode cX4_lacks 16 = .ok (.iconst 0, 1) := by decide +kernel
theorem dX4_lacks_17 : decode cX4_lacks 17 = .ok (.goto 16, 3) := by decide +kernel
theorem dX4_lacks_20 : decode cX4_lacks 20 = .ok (.aload_n 0, 1) := by decide +kernel
theorem dX4_lacks_21 : decode cX4_lacks 21 = .ok (.getfield 37, 3) := by decide +kernel
theorem dX4_lacks_24 : decode cX4_lacks 24 = .ok (.iload_n 1, 1) := by decide +kernel
theorem dX4_lacks_25 : decode cX4_lacks 25 = .ok (.iaload, 1) := by decide +kernel
theorem dX4_lacks_26 : decode cX4_lacks 26 = .ok (.aload_n 0, 1) := by decide +kernel
theorem dX4_lacks_27 : decode cX4_lacks 27 = .ok (.getfield 43, 3) := by decide +kernel
theorem dX4_lacks_30 : decode cX4_lacks 30 = .ok (.iload_n 1, 1) := by decide +kernel
theorem dX4_lacks_31 : decode cX4_lacks 31 = .ok (.iaload, 1) := by decide +kernel
theorem dX4_lacks_32 : decode cX4_lacks 32 = .ok (.isub, 1) := by decide +kernel
theorem dX4_lacks_33 : decode cX4_lacks 33 = .ok (.ireturn, 1) := by decide +kernel
theorem dX4_isHeld_0 : decode cX4_isHeld 0 = .ok (.iconst 0, 1) := by decide +kernel
theorem dX4_isHeld_1 : decode cX4_isHeld 1 = .ok (.istore_n 2, 1) := by decide +kernel
theorem dX4_isHeld_2 : decode cX4_isHeld 2 = .ok (.iload_n 2, 1) := by decide +kernel
theorem dX4_isHeld_3 : decode cX4_isHeld 3 = .ok (.aload_n 0, 1) := by decide +kernel
theorem dX4_isHeld_4 : decode cX4_isHeld 4 = .ok (.getfield 83, 3) := by decide +kernel
theorem dX4_isHeld_7 : decode cX4_isHeld 7 = .ok (.if_icmp .ge 43, 3) := by decide +kernel
theorem dX4_isHeld_10 : decode cX4_isHeld 10 = .ok (.iconst 0, 1) := by decide +kernel
theorem dX4_isHeld_11 : decode cX4_isHeld 11 = .ok (.istore_n 3, 1) := by decide +kernel
theorem dX4_isHeld_12 : decode cX4_isHeld 12 = .ok (.iload_n 3, 1) := by decide +kernel
theorem dX4_isHeld_13 : decode cX4_isHeld 13 = .ok (.aload_n 0, 1) := by decide +kernel
theorem dX4_isHeld_14 : decode cX4_isHeld 14 = .ok (.iload_n 2, 1) := by decide +kernel
theorem dX4_isHeld_15 : decode cX4_isHeld 15 = .ok (.invokevirtual 139, 3) := by decide +kernel
theorem dX4_isHeld_18 : decode cX4_isHeld 18 = .ok (.if_icmp .ge 26, 3) := by decide +kernel
theorem dX4_isHeld_21 : decode cX4_isHeld 21 = .ok (.aload_n 0, 1) := by decide +kernel
theorem dX4_isHeld_22 : decode cX4_isHeld 22 = .ok (.getfield 40, 3) := by decide +kernel
theorem dX4_isHeld_25 : decode cX4_isHeld 25 = .ok (.bipush 9, 2) := by decide +kernel
theorem dX4_isHeld_27 : decode cX4_isHeld 27 = .ok (.iload_n 2, 1) := by decide +kernel
theorem dX4_isHeld_28 : decode cX4_isHeld 28 = .ok (.imul, 1) := by decide +kernel
theorem dX4_isHeld_29 : decode cX4_isHeld 29 = .ok (.iload_n 3, 1) := by decide +kernel
theorem dX4_isHeld_30 : decode cX4_isHeld 30 = .ok (.iadd, 1) := by decide +kernel
theorem dX4_isHeld_31 : decode cX4_isHeld 31 = .ok (.iaload, 1) := by decide +kernel
theorem dX4_isHeld_32 : decode cX4_isHeld 32 = .ok (.iload_n 1, 1) := by decide +kernel
theorem dX4_isHeld_33 : decode cX4_isHeld 33 = .ok (.if_icmp .ne 5, 3) := by decide +kernel
theorem dX4_isHeld_36 : decode cX4_isHeld 36 = .ok (.iconst 1, 1) := by decide +kernel
theorem dX4_isHeld_37 : decode cX4_isHeld 37 = .ok (.ireturn, 1) := by decide +kernel
theorem dX4_isHeld_38 : decode cX4_isHeld 38 = .ok (.iinc 3 1, 3) := by decide +kernel
theorem dX4_isHeld_41 : decode cX4_isHeld 41 = .ok (.goto (-29), 3) := by decide +kernel
theorem dX4_isHeld_44 : decode cX4_isHeld 44 = .ok (.iinc 2 1, 3) := by decide +kernel
theorem dX4_isHeld_47 : decode cX4_isHeld 47 = .ok (.goto (-45), 3) := by decide +kernel
theorem dX4_isHeld_50 : decode cX4_isHeld 50 = .ok (.iconst 0, 1) := by decide +kernel
theorem dX4_isHeld_51 : decode cX4_isHeld 51 = .ok (.istore_n 2, 1) := by decide +kernel
theorem dX4_isHeld_52 : decode cX4_isHeld 52 = .ok (.iload_n 2, 1) := by decide +kernel
theorem dX4_isHeld_53 : decode cX4_isHeld 53 = .ok (.aload_n 0, 1) := by decide +kernel
theorem dX4_isHeld_54 : decode cX4_isHeld 54 = .ok (.getfield 86, 3) := by decide +kernel
theorem dX4_isHeld_57 : decode cX4_isHeld 57 = .ok (.if_icmp .ge 31, 3) := by decide +kernel
theorem dX4_isHeld_60 : decode cX4_isHeld 60 = .ok (.aload_n 0, 1) := by decide +kernel
theorem dX4_isHeld_61 : decode cX4_isHeld 61 = .ok (.getfield 50, 3) := by decide +kernel
theorem dX4_isHeld_64 : decode cX4_isHeld 64 = .ok (.iload_n 2, 1) := by decide +kernel
theorem dX4_isHeld_65 : decode cX4_isHeld 65 = .ok (.caload, 1) := by decide +kernel
theorem dX4_isHeld_66 : decode cX4_isHeld 66 = .ok (.bipush 115, 2) := by decide +kernel
theorem dX4_isHeld_68 : decode cX4_isHeld 68 = .ok (.if_icmp .ne 14, 3) := by decide +kernel
theorem dX4_isHeld_71 : decode cX4_isHeld 71 = .ok (.aload_n 0, 1) := by decide +kernel
theorem dX4_isHeld_72 : decode cX4_isHeld 72 = .ok (.iload_n 2, 1) := by decide +kernel
theorem dX4_isHeld_73 : decode cX4_isHeld 73 = .ok (.iload_n 1, 1) := by decide +kernel
theorem dX4_isHeld_74 : decode cX4_isHeld 74 = .ok (.invokevirtual 145, 3) := by decide +kernel
theorem dX4_isHeld_77 : decode cX4_isHeld 77 = .ok (.ifCond .eq 5, 3) := by decide +kernel
theorem dX4_isHeld_80 : decode cX4_isHeld 80 = .ok (.iconst 1, 1) := by decide +kernel
theorem dX4_isHeld_81 : decode cX4_isHeld 81 = .ok (.ireturn, 1) := by decide +kernel
theorem dX4_isHeld_82 : decode cX4_isHeld 82 = .ok (.iinc 2 1, 3) := by decide +kernel
theorem dX4_isHeld_85 : decode cX4_isHeld 85 = .ok (.goto (-33), 3) := by decide +kernel
theorem dX4_isHeld_88 : decode cX4_isHeld 88 = .ok (.iconst 0, 1) := by decide +kernel
theorem dX4_isHeld_89 : decode cX4_isHeld 89 = .ok (.ireturn, 1) := by decide +kernel
theorem dX4_hasOn_0 : decode cX4_hasOn 0 = .ok (.iconst 0, 1) := by decide +kernel
theorem dX4_hasOn_1 : decode cX4_hasOn 1 = .ok (.istore_n 3, 1) := by decide +kernel
theorem dX4_hasOn_2 : decode cX4_hasOn 2 = .ok (.iload_n 3, 1) := by decide +kernel
theorem dX4_hasOn_3 : decode cX4_hasOn 3 = .ok (.aload_n 0, 1) := by decide +kernel
theorem dX4_hasOn_4 : decode cX4_hasOn 4 = .ok (.getfield 63, 3) := by decide +kernel
theorem dX4_hasOn_7 : decode cX4_hasOn 7 = .ok (.iload_n 1, 1) := by decide +kernel
theorem dX4_hasOn_8 : decode cX4_hasOn 8 = .ok (.iaload, 1) := by decide +kernel
theorem dX4_hasOn_9 : decode cX4_hasOn 9 = .ok (.if_icmp .ge 26, 3) := by decide +kernel
theorem dX4_hasOn_12 : decode cX4_hasOn 12 = .ok (.aload_n 0, 1) := by decide +kernel
theorem dX4_hasOn_13 : decode cX4_hasOn 13 = .ok (.getfield 60, 3) := by decide +kernel
theorem dX4_hasOn_16 : decode cX4_hasOn 16 = .ok (.bipush 27, 2) := by decide +kernel
theorem dX4_hasOn_18 : decode cX4_hasOn 18 = .ok (.iload_n 1, 1) := by decide +kernel
theorem dX4_hasOn_19 : decode cX4_hasOn 19 = .ok (.imul, 1) := by decide +kernel
theorem dX4_hasOn_20 : decode cX4_hasOn 20 = .ok (.iload_n 3, 1) := by decide +kernel
theorem dX4_hasOn_21 : decode cX4_hasOn 21 = .ok (.iadd, 1) := by decide +kernel
theorem dX4_hasOn_22 : decode cX4_hasOn 22 = .ok (.iaload, 1) := by decide +kernel
theorem dX4_hasOn_23 : decode cX4_hasOn 23 = .ok (.iload_n 2, 1) := by decide +kernel
theorem dX4_hasOn_24 : decode cX4_hasOn 24 = .ok (.if_icmp .ne 5, 3) := by decide +kernel
theorem dX4_hasOn_27 : decode cX4_hasOn 27 = .ok (.iconst 1, 1) := by decide +kernel
theorem dX4_hasOn_28 : decode cX4_hasOn 28 = .ok (.ireturn, 1) := by decide +kernel
theorem dX4_hasOn_29 : decode cX4_hasOn 29 = .ok (.iinc 3 1, 3) := by decide +kernel
theorem dX4_hasOn_32 : decode cX4_hasOn 32 = .ok (.goto (-30), 3) := by decide +kernel
theorem dX4_hasOn_35 : decode cX4_hasOn 35 = .ok (.iconst 0, 1) := by decide +kernel
theorem dX4_hasOn_36 : decode cX4_hasOn 36 = .ok (.ireturn, 1) := by decide +kernel
theorem dX4_isFreeNow_0 : decode cX4_isFreeNow 0 = .ok (.aload_n 0, 1) := by decide +kernel
theorem dX4_isFreeNow_1 : decode cX4_isFreeNow 1 = .ok (.iload_n 1, 1) := by decide +kernel
theorem dX4_isFreeNow_2 : decode cX4_isFreeNow 2 = .ok (.invokevirtual 148, 3) := by decide +kernel
theorem dX4_isFreeNow_5 : decode cX4_isFreeNow 5 = .ok (.ifCond .ne 22, 3) := by decide +kernel
theorem dX4_isFreeNow_8 : decode cX4_isFreeNow 8 = .ok (.aload_n 0, 1) := by decide +kernel
theorem dX4_isFreeNow_9 : decode cX4_isFreeNow 9 = .ok (.getfield 25, 3) := by decide +kernel
theorem dX4_isFreeNow_12 : decode cX4_isFreeNow 12 = .ok (.iload_n 1, 1) := by decide +kernel
theorem dX4_isFreeNow_13 : decode cX4_isFreeNow 13 = .ok (.iaload, 1) := by decide +kernel
theorem dX4_isFreeNow_14 : decode cX4_isFreeNow 14 = .ok (.aload_n 0, 1) := by decide +kernel
theorem dX4_isFreeNow_15 : decode cX4_isFreeNow 15 = .ok (.getfield 123, 3) := by decide +kernel
theorem dX4_isFreeNow_18 : decode cX4_isFreeNow 18 = .ok (.iconst 2, 1) := by decide +kernel
theorem dX4_isFreeNow_19 : decode cX4_isFreeNow 19 = .ok (.isub, 1) := by decide +kernel
theorem dX4_isFreeNow_20 : decode cX4_isFreeNow 20 = .ok (.if_icmp .ge 7, 3) := by decide +kernel
theorem dX4_isFreeNow_23 : decode cX4_isFreeNow 23 = .ok (.iconst 1, 1) := by decide +kernel
theorem dX4_isFreeNow_24 : decode cX4_isFreeNow 24 = .ok (.goto 4, 3) := by decide +kernel
theorem dX4_isFreeNow_27 : decode cX4_isFreeNow 27 = .ok (.iconst 0, 1) := by decide +kernel
theorem dX4_isFreeNow_28 : decode cX4_isFreeNow 28 = .ok (.ireturn, 1) := by decide +kernel
theorem dX4_isFree_0 : decode cX4_isFree 0 = .ok (.aload_n 0, 1) := by decide +kernel
theorem dX4_isFree_1 : decode cX4_isFree 1 = .ok (.iload_n 1, 1) := by decide +kernel
theorem dX4_isFree_2 : decode cX4_isFree 2 = .ok (.invokevirtual 103, 3) := by decide +kernel
theorem dX4_isFree_5 : decode cX4_isFree 5 = .ok (.ifCond .ne 15, 3) := by decide +kernel
theorem dX4_isFree_8 : decode cX4_isFree 8 = .ok (.aload_n 0, 1) := by decide +kernel
theorem dX4_isFree_9 : decode cX4_isFree 9 = .ok (.iload_n 1, 1) := by decide +kernel
theorem dX4_isFree_10 : decode cX4_isFree 10 = .ok (.invokevirtual 151, 3) := by decide +kernel
theorem dX4_isFree_13 : decode cX4_isFree 13 = .ok (.ifCond .eq 7, 3) := by decide +kernel
theorem dX4_isFree_16 : decode cX4_isFree 16 = .ok (.iconst 1, 1) := by decide +kernel
theorem dX4_isFree_17 : decode cX4_isFree 17 = .ok (.goto 4, 3) := by decide +kernel
theorem dX4_isFree_20 : decode cX4_isFree 20 = .ok (.iconst 0, 1) := by decide +kernel
theorem dX4_isFree_21 : decode cX4_isFree 21 = .ok (.ireturn, 1) := by decide +kernel
theorem dX4_hasTwinIn_0 : decode cX4_hasTwinIn 0 = .ok (.iconst 0, 1) := by decide +kernel
theorem dX4_hasTwinIn_1 : decode cX4_hasTwinIn 1 = .ok (.istore 4, 2) := by decide +kernel
theorem dX4_hasTwinIn_3 : decode cX4_hasTwinIn 3 = .ok (.iload 4, 2) := by decide +kernel
theorem dX4_hasTwinIn_5 : decode cX4_hasTwinIn 5 = .ok (.iload_n 2, 1) := by decide +kernel
theorem dX4_hasTwinIn_6 : decode cX4_hasTwinIn 6 = .ok (.if_icmp .ge 31, 3) := by decide +kernel
theorem dX4_hasTwinIn_9 : decode cX4_hasTwinIn 9 = .ok (.aload_n 0, 1) := by decide +kernel
theorem dX4_hasTwinIn_10 : decode cX4_hasTwinIn 10 = .ok (.aload_n 0, 1) := by decide +kernel
theorem dX4_hasTwinIn_11 : decode cX4_hasTwinIn 11 = .ok (.getfield 40, 3) := by decide +kernel
theorem dX4_hasTwinIn_14 : decode cX4_hasTwinIn 14 = .ok (.bipush 9, 2) := by decide +kernel
theorem dX4_hasTwinIn_16 : decode cX4_hasTwinIn 16 = .ok (.iload_n 1, 1) := by decide +kernel
theorem dX4_hasTwinIn_17 : decode cX4_hasTwinIn 17 = .ok (.imul, 1) := by decide +kernel
theorem dX4_hasTwinIn_18 : decode cX4_hasTwinIn 18 = .ok (.iload 4, 2) := by decide +kernel
theorem dX4_hasTwinIn_20 : decode cX4_hasTwinIn 20 = .ok (.iadd, 1) := by decide +kernel
theorem dX4_hasTwinIn_21 : decode cX4_hasTwinIn 21 = .ok (.iaload, 1) := by decide +kernel
theorem dX4_hasTwinIn_22 : decode cX4_hasTwinIn 22 = .ok (.iload_n 3, 1) := by decide +kernel
theorem dX4_hasTwinIn_23 : decode cX4_hasTwinIn 23 = .ok (.invokevirtual 99, 3) := by decide +kernel
theorem dX4_hasTwinIn_26 : decode cX4_hasTwinIn 26 = .ok (.ifCond .eq 5, 3) := by decide +kernel
theorem dX4_hasTwinIn_29 : decode cX4_hasTwinIn 29 = .ok (.iconst 1, 1) := by decide +kernel
theorem dX4_hasTwinIn_30 : decode cX4_hasTwinIn 30 = .ok (.ireturn, 1) := by decide +kernel
theorem dX4_hasTwinIn_31 : decode cX4_hasTwinIn 31 = .ok (.iinc 4 1, 3) := by decide +kernel
theorem dX4_hasTwinIn_34 : decode cX4_hasTwinIn 34 = .ok (.goto (-31), 3) := by decide +kernel
theorem dX4_hasTwinIn_37 : decode cX4_hasTwinIn 37 = .ok (.iconst 0, 1) := by decide +kernel
theorem dX4_hasTwinIn_38 : decode cX4_hasTwinIn 38 = .ok (.ireturn, 1) := by decide +kernel
theorem dX4_settle_0 : decode cX4_settle 0 = .ok (.iconst 0, 1) := by decide +kernel
theorem dX4_settle_1 : decode cX4_settle 1 = .ok (.istore_n 1, 1) := by decide +kernel
theorem dX4_settle_2 : decode cX4_settle 2 = .ok (.iload_n 1, 1) := by decide +kernel
theorem dX4_settle_3 : decode cX4_settle 3 = .ok (.aload_n 0, 1) := by decide +kernel
theorem dX4_settle_4 : decode cX4_settle 4 = .ok (.getfield 83, 3) := by decide +kernel
theorem dX4_settle_7 : decode cX4_settle 7 = .ok (.if_icmp .ge 105, 3) := by decide +kernel
theorem dX4_settle_10 : decode cX4_settle 10 = .ok (.aload_n 0, 1) := by decide +kernel
theorem dX4_settle_11 : decode cX4_settle 11 = .ok (.iload_n 1, 1) := by decide +kernel
theorem dX4_settle_12 : decode cX4_settle 12 = .ok (.invokevirtual 133, 3) := by decide +kernel
theorem dX4_settle_15 : decode cX4_settle 15 = .ok (.ifCond .ne 6, 3) := by decide +kernel
theorem dX4_settle_18 : decode cX4_settle 18 = .ok (.goto 88, 3) := by decide +kernel
theorem dX4_settle_21 : decode cX4_settle 21 = .ok (.iconst 0, 1) := by decide +kernel
theorem dX4_settle_22 : decode cX4_settle 22 = .ok (.istore_n 2, 1) := by decide +kernel
theorem dX4_settle_23 : decode cX4_settle 23 = .ok (.iconst 0, 1) := by decide +kernel
theorem dX4_settle_24 : decode cX4_settle 24 = .ok (.istore_n 3, 1) := by decide +kernel
theorem dX4_settle_25 : decode cX4_settle 25 = .ok (.iload_n 3, 1) := by decide +kernel
theorem dX4_settle_26 : decode cX4_settle 26 = .ok (.aload_n 0, 1) := by decide +kernel
theorem dX4_settle_27 : decode cX4_settle 27 = .ok (.getfield 43, 3) := by decide +kernel
theorem dX4_settle_30 : decode cX4_settle 30 = .ok (.iload_n 1, 1) := by decide +kernel
theorem dX4_settle_31 : decode cX4_settle 31 = .ok (.iaload, 1) := by decide +kernel
theorem dX4_settle_32 : decode cX4_settle 32 = .ok (.if_icmp .ge 67, 3) := by decide +kernel
theorem dX4_settle_35 : decode cX4_settle 35 = .ok (.aload_n 0, 1) := by decide +kernel
theorem dX4_settle_36 : decode cX4_settle 36 = .ok (.getfield 40, 3) := by decide +kernel
theorem dX4_settle_39 : decode cX4_settle 39 = .ok (.bipush 9, 2) := by decide +kernel
theorem dX4_settle_41 : decode cX4_settle 41 = .ok (.iload_n 1, 1) := by decide +kernel
theorem dX4_settle_42 : decode cX4_settle 42 = .ok (.imul, 1) := by decide +kernel
theorem dX4_settle_43 : decode cX4_settle 43 = .ok (.iload_n 3, 1) := by decide +kernel
theorem dX4_settle_44 : decode cX4_settle 44 = .ok (.iadd, 1) := by decide +kernel
theorem dX4_settle_45 : decode cX4_settle 45 = .ok (.iaload, 1) := by decide +kernel
theorem dX4_settle_46 : decode cX4_settle 46 = .ok (.istore 4, 2) := by decide +kernel
theorem dX4_settle_48 : decode cX4_settle 48 = .ok (.aload_n 0, 1) := by decide +kernel
theorem dX4_settle_49 : decode cX4_settle 49 = .ok (.iload 4, 2) := by decide +kernel
theorem dX4_settle_51 : decode cX4_settle 51 = .ok (.invokevirtual 107, 3) := by decide +kernel
theorem dX4_settle_54 : decode cX4_settle 54 = .ok (.aload_n 0, 1) := by decide +kernel
theorem dX4_settle_55 : decode cX4_settle 55 = .ok (.getfield 46, 3) := by decide +kernel
theorem dX4_settle_58 : decode cX4_settle 58 = .ok (.iload_n 1, 1) := by decide +kernel
theorem dX4_settle_59 : decode cX4_settle 59 = .ok (.caload, 1) := by decide +kernel
theorem dX4_settle_60 : decode cX4_settle 60 = .ok (.if_icmp .ne 33, 3) := by decide +kernel
theorem dX4_settle_63 : decode cX4_settle 63 = .ok (.aload_n 0, 1) := by decide +kernel
theorem dX4_settle_64 : decode cX4_settle 64 = .ok (.iload_n 1, 1) := by decide +kernel
theorem dX4_settle_65 : decode cX4_settle 65 = .ok (.iload_n 2, 1) := by decide +kernel
theorem dX4_settle_66 : decode cX4_settle 66 = .ok (.iload 4, 2) := by decide +kernel
theorem dX4_settle_68 : decode cX4_settle 68 = .ok (.invokevirtual 154, 3) := by decide +kernel
theorem dX4_settle_71 : decode cX4_settle 71 = .ok (.ifCond .eq 6, 3) := by decide +kernel
theorem dX4_settle_74 : decode cX4_settle 74 = .ok (.goto 19, 3) := by decide +kernel
theorem dX4_settle_77 : decode cX4_settle 77 = .ok (.aload_n 0, 1) := by decide +kernel
theorem dX4_settle_78 : decode cX4_settle 78 = .ok (.getfield 40, 3) := by decide +kernel
theorem dX4_settle_81 : decode cX4_settle 81 = .ok (.bipush 9, 2) := by decide +kernel
theorem dX4_settle_83 : decode cX4_settle 83 = .ok (.iload_n 1, 1) := by decide +kernel
theorem dX4_settle_84 : decode cX4_settle 84 = .ok (.imul, 1) := by decide +kernel
theorem dX4_settle_85 : decode cX4_settle 85 = .ok (.iload_n 2, 1) := by decide +kernel
theorem dX4_settle_86 : decode cX4_settle 86 = .ok (.iadd, 1) := by decide +kernel
theorem dX4_settle_87 : decode cX4_settle 87 = .ok (.iload 4, 2) := by decide +kernel
theorem dX4_settle_89 : decode cX4_settle 89 = .ok (.iastore, 1) := by decide +kernel
theorem dX4_settle_90 : decode cX4_settle 90 = .ok (.iinc 2 1, 3) := by decide +kernel
theorem dX4_settle_93 : decode cX4_settle 93 = .ok (.iinc 3 1, 3) := by decide +kernel
theorem dX4_settle_96 : decode cX4_settle 96 = .ok (.goto (-71), 3) := by decide +kernel
theorem dX4_settle_99 : decode cX4_settle 99 = .ok (.aload_n 0, 1) := by decide +kernel
theorem dX4_settle_100 : decode cX4_settle 100 = .ok (.getfield 43, 3) := by decide +kernel
theorem dX4_settle_103 : decode cX4_settle 103 = .ok (.iload_n 1, 1) := by decide +kernel
theorem dX4_settle_104 : decode cX4_settle 104 = .ok (.iload_n 2, 1) := by decide +kernel
theorem dX4_settle_105 : decode cX4_settle 105 = .ok (.iastore, 1) := by decide +kernel
theorem dX4_settle_106 : decode cX4_settle 106 = .ok (.iinc 1 1, 3) := by decide +kernel
theorem dX4_settle_109 : decode cX4_settle 109 = .ok (.goto (-107), 3) := by decide +kernel
theorem dX4_settle_112 : decode cX4_settle 112 = .ok (.iconst 0, 1) := by decide +kernel
theorem dX4_settle_113 : decode cX4_settle 113 = .ok (.istore_n 1, 1) := by decide +kernel
theorem dX4_settle_114 : decode cX4_settle 114 = .ok (.iload_n 1, 1) := by decide +kernel
theorem dX4_settle_115 : decode cX4_settle 115 = .ok (.aload_n 0, 1) := by decide +kernel
theorem dX4_settle_116 : decode cX4_settle 116 = .ok (.getfield 83, 3) := by decide +kernel
theorem dX4_settle_119 : decode cX4_settle 119 = .ok (.if_icmp .ge 115, 3) := by decide +kernel
theorem dX4_settle_122 : decode cX4_settle 122 = .ok (.iconst 0, 1) := by decide +kernel
theorem dX4_settle_123 : decode cX4_settle 123 = .ok (.istore_n 2, 1) := by decide +kernel
theorem dX4_settle_124 : decode cX4_settle 124 = .ok (.iload_n 2, 1) := by decide +kernel
theorem dX4_settle_125 : decode cX4_settle 125 = .ok (.aload_n 0, 1) := by decide +kernel
theorem dX4_settle_126 : decode cX4_settle 126 = .ok (.getfield 76, 3) := by decide +kernel
theorem dX4_settle_129 : decode cX4_settle 129 = .ok (.if_icmp .ge 99, 3) := by decide +kernel
theorem dX4_settle_132 : decode cX4_settle 132 = .ok (.aload_n 0, 1) := by decide +kernel
theorem dX4_settle_133 : decode cX4_settle 133 = .ok (.iload_n 1, 1) := by decide +kernel
theorem dX4_settle_134 : decode cX4_settle 134 = .ok (.invokevirtual 133, 3) := by decide +kernel
theorem dX4_settle_137 : decode cX4_settle 137 = .ok (.ifCond .eq 91, 3) := by decide +kernel
theorem dX4_settle_140 : decode cX4_settle 140 = .ok (.aload_n 0, 1) := by decide +kernel
theorem dX4_settle_141 : decode cX4_settle 141 = .ok (.getfield 43, 3) := by decide +kernel
theorem dX4_settle_144 : decode cX4_settle 144 = .ok (.iload_n 1, 1) := by decide +kernel
theorem dX4_settle_145 : decode cX4_settle 145 = .ok (.iaload, 1) := by decide +kernel
theorem dX4_settle_146 : decode cX4_settle 146 = .ok (.aload_n 0, 1) := by decide +kernel
theorem dX4_settle_147 : decode cX4_settle 147 = .ok (.getfield 37, 3) := by decide +kernel
theorem dX4_settle_150 : decode cX4_settle 150 = .ok (.iload_n 1, 1) := by decide +kernel
theorem dX4_settle_151 : decode cX4_settle 151 = .ok (.iaload, 1) := by decide +kernel
theorem dX4_settle_152 : decode cX4_settle 152 = .ok (.if_icmp .ge 76, 3) := by decide +kernel
theorem dX4_settle_155 : decode cX4_settle 155 = .ok (.aload_n 0, 1) := by decide +kernel
theorem dX4_settle_156 : decode cX4_settle 156 = .ok (.iload_n 2, 1) := by decide +kernel
theorem dX4_settle_157 : decode cX4_settle 157 = .ok (.invokevirtual 107, 3) := by decide +kernel
theorem dX4_settle_160 : decode cX4_settle 160 = .ok (.aload_n 0, 1) := by decide +kernel
theorem dX4_settle_161 : decode cX4_settle 161 = .ok (.getfield 46, 3) := by decide +kernel
theorem dX4_settle_164 : decode cX4_settle 164 = .ok (.iload_n 1, 1) := by decide +kernel
theorem dX4_settle_165 : decode cX4_settle 165 = .ok (.caload, 1) := by decide +kernel
theorem dX4_settle_166 : decode cX4_settle 166 = .ok (.if_icmp .ne 56, 3) := by decide +kernel
theorem dX4_settle_169 : decode cX4_settle 169 = .ok (.aload_n 0, 1) := by decide +kernel
theorem dX4_settle_170 : decode cX4_settle 170 = .ok (.iload_n 2, 1) := by decide +kernel
theorem dX4_settle_171 : decode cX4_settle 171 = .ok (.invokevirtual 151, 3) := by decide +kernel
theorem dX4_settle_174 : decode cX4_settle 174 = .ok (.ifCond .eq 48, 3) := by decide +kernel
theorem dX4_settle_177 : decode cX4_settle 177 = .ok (.aload_n 0, 1) := by decide +kernel
theorem dX4_settle_178 : decode cX4_settle 178 = .ok (.iload_n 1, 1) := by decide +kernel
theorem dX4_settle_179 : decode cX4_settle 179 = .ok (.aload_n 0, 1) := by decide +kernel
theorem dX4_settle_180 : decode cX4_settle 180 = .ok (.getfield 43, 3) := by decide +kernel
theorem dX4_settle_183 : decode cX4_settle 183 = .ok (.iload_n 1, 1) := by decide +kernel
theorem dX4_settle_184 : decode cX4_settle 184 = .ok (.iaload, 1) := by decide +kernel
theorem dX4_settle_185 : decode cX4_settle 185 = .ok (.iload_n 2, 1) := by decide +kernel
theorem dX4_settle_186 : decode cX4_settle 186 = .ok (.invokevirtual 154, 3) := by decide +kernel
theorem dX4_settle_189 : decode cX4_settle 189 = .ok (.ifCond .eq 6, 3) := by decide +kernel
theorem dX4_settle_192 : decode cX4_settle 192 = .ok (.goto 30, 3) := by decide +kernel
theorem dX4_settle_195 : decode cX4_settle 195 = .ok (.aload_n 0, 1) := by decide +kernel
theorem dX4_settle_196 : decode cX4_settle 196 = .ok (.getfield 40, 3) := by decide +kernel
theorem dX4_settle_199 : decode cX4_settle 199 = .ok (.bipush 9, 2) := by decide +kernel
theorem dX4_settle_201 : decode cX4_settle 201 = .ok (.iload_n 1, 1) := by decide +kernel
theorem dX4_settle_202 : decode cX4_settle 202 = .ok (.imul, 1) := by decide +kernel
theorem dX4_settle_203 : decode cX4_settle 203 = .ok (.aload_n 0, 1) := by decide +kernel
theorem dX4_settle_204 : decode cX4_settle 204 = .ok (.getfield 43, 3) := by decide +kernel
theorem dX4_settle_207 : decode cX4_settle 207 = .ok (.iload_n 1, 1) := by decide +kernel
theorem dX4_settle_208 : decode cX4_settle 208 = .ok (.iaload, 1) := by decide +kernel
theorem dX4_settle_209 : decode cX4_settle 209 = .ok (.iadd, 1) := by decide +kernel
theorem dX4_settle_210 : decode cX4_settle 210 = .ok (.iload_n 2, 1) := by decide +kernel
theorem dX4_settle_211 : decode cX4_settle 211 = .ok (.iastore, 1) := by decide +kernel
theorem dX4_settle_212 : decode cX4_settle 212 = .ok (.aload_n 0, 1) := by decide +kernel
theorem dX4_settle_213 : decode cX4_settle 213 = .ok (.getfield 43, 3) := by decide +kernel
theorem dX4_settle_216 : decode cX4_settle 216 = .ok (.iload_n 1, 1) := by decide +kernel
theorem dX4_settle_217 : decode cX4_settle 217 = .ok (.dup2, 1) := by decide +kernel
theorem dX4_settle_218 : decode cX4_settle 218 = .ok (.iaload, 1) := by decide +kernel
theorem dX4_settle_219 : decode cX4_settle 219 = .ok (.iconst 1, 1) := by decide +kernel
theorem dX4_settle_220 : decode cX4_settle 220 = .ok (.iadd, 1) := by decide +kernel
theorem dX4_settle_221 : decode cX4_settle 221 = .ok (.iastore, 1) := by decide +kernel
theorem dX4_settle_222 : decode cX4_settle 222 = .ok (.iinc 2 1, 3) := by decide +kernel
theorem dX4_settle_225 : decode cX4_settle 225 = .ok (.goto (-101), 3) := by decide +kernel
theorem dX4_settle_228 : decode cX4_settle 228 = .ok (.iinc 1 1, 3) := by decide +kernel
theorem dX4_settle_231 : decode cX4_settle 231 = .ok (.goto (-117), 3) := by decide +kernel
theorem dX4_settle_234 : decode cX4_settle 234 = .ok (.return_, 1) := by decide +kernel
theorem dX4_isCandidate_0 : decode cX4_isCandidate 0 = .ok (.aload_n 0, 1) := by decide +kernel
theorem dX4_isCandidate_1 : decode cX4_isCandidate 1 = .ok (.iload_n 1, 1) := by decide +kernel
theorem dX4_isCandidate_2 : decode cX4_isCandidate 2 = .ok (.invokevirtual 107, 3) := by decide +kernel
theorem dX4_isCandidate_5 : decode cX4_isCandidate 5 = .ok (.iload_n 2, 1) := by decide +kernel
theorem dX4_isCandidate_6 : decode cX4_isCandidate 6 = .ok (.if_icmp .ne 15, 3) := by decide +kernel
theorem dX4_isCandidate_9 : decode cX4_isCandidate 9 = .ok (.aload_n 0, 1) := by decide +kernel
theorem dX4_isCandidate_10 : decode cX4_isCandidate 10 = .ok (.iload_n 1, 1) := by decide +kernel
theorem dX4_isCandidate_11 : decode cX4_isCandidate 11 = .ok (.invokevirtual 151, 3) := by decide +kernel
theorem dX4_isCandidate_14 : decode cX4_isCandidate 14 = .ok (.ifCond .eq 7, 3) := by decide +kernel
theorem dX4_isCandidate_17 : decode cX4_isCandidate 17 = .ok (.iconst 1, 1) := by decide +kernel
theorem dX4_isCandidate_18 : decode cX4_isCandidate 18 = .ok (.goto 4, 3) := by decide +kernel
theorem dX4_isCandidate_21 : decode cX4_isCandidate 21 = .ok (.iconst 0, 1) := by decide +kernel
theorem dX4_isCandidate_22 : decode cX4_isCandidate 22 = .ok (.istore 4, 2) := by decide +kernel
theorem dX4_isCandidate_24 : decode cX4_isCandidate 24 = .ok (.iconst 0, 1) := by decide +kernel
theorem dX4_isCandidate_25 : decode cX4_isCandidate 25 = .ok (.istore 5, 2) := by decide +kernel
theorem dX4_isCandidate_27 : decode cX4_isCandidate 27 = .ok (.iload 5, 2) := by decide +kernel
theorem dX4_isCandidate_29 : decode cX4_isCandidate 29 = .ok (.iload_n 3, 1) := by decide +kernel
theorem dX4_isCandidate_30 : decode cX4_isCandidate 30 = .ok (.if_icmp .ge 54, 3) := by decide +kernel
theorem dX4_isCandidate_33 : decode cX4_isCandidate 33 = .ok (.iload 4, 2) := by decide +kernel
theorem dX4_isCandidate_35 : decode cX4_isCandidate 35 = .ok (.ifCond .eq 49, 3) := by decide +kernel
theorem dX4_isCandidate_38 : decode cX4_isCandidate 38 = .ok (.aload_n 0, 1) := by decide +kernel
theorem dX4_isCandidate_39 : decode cX4_isCandidate 39 = .ok (.getfield 60, 3) := by decide +kernel
theorem dX4_isCandidate_42 : decode cX4_isCandidate 42 = .ok (.bipush 27, 2) := by decide +kernel
theorem dX4_isCandidate_44 : decode cX4_isCandidate 44 = .ok (.aload_n 0, 1) := by decide +kernel
theorem dX4_isCandidate_45 : decode cX4_isCandidate 45 = .ok (.getfield 86, 3) := by decide +kernel
theorem dX4_isCandidate_48 : decode cX4_isCandidate 48 = .ok (.imul, 1) := by decide +kernel
theorem dX4_isCandidate_49 : decode cX4_isCandidate 49 = .ok (.iload 5, 2) := by decide +kernel
theorem dX4_isCandidate_51 : decode cX4_isCandidate 51 = .ok (.iadd, 1) := by decide +kernel
theorem dX4_isCandidate_52 : decode cX4_isCandidate 52 = .ok (.iaload, 1) := by decide +kernel
theorem dX4_isCandidate_53 : decode cX4_isCandidate 53 = .ok (.istore 6, 2) := by decide +kernel
theorem dX4_isCandidate_55 : decode cX4_isCandidate 55 = .ok (.iload 6, 2) := by decide +kernel
theorem dX4_isCandidate_57 : decode cX4_isCandidate 57 = .ok (.iload_n 1, 1) := by decide +kernel
theorem dX4_isCandidate_58 : decode cX4_isCandidate 58 = .ok (.if_icmp .eq 17, 3) := by decide +kernel
theorem dX4_isCandidate_61 : decode cX4_isCandidate 61 = .ok (.aload_n 0, 1) := by decide +kernel
theorem dX4_isCandidate_62 : decode cX4_isCandidate 62 = .ok (.iload 6, 2) := by decide +kernel
theorem dX4_isCandidate_64 : decode cX4_isCandidate 64 = .ok (.iload_n 1, 1) := by decide +kernel
theorem dX4_isCandidate_65 : decode cX4_isCandidate 65 = .ok (.invokevirtual 99, 3) := by decide +kernel
theorem dX4_isCandidate_68 : decode cX4_isCandidate 68 = .ok (.ifCond .ne 7, 3) := by decide +kernel
theorem dX4_isCandidate_71 : decode cX4_isCandidate 71 = .ok (.iconst 1, 1) := by decide +kernel
theorem dX4_isCandidate_72 : decode cX4_isCandidate 72 = .ok (.goto 4, 3) := by decide +kernel
theorem dX4_isCandidate_75 : decode cX4_isCandidate 75 = .ok (.iconst 0, 1) := by decide +kernel
theorem dX4_isCandidate_76 : decode cX4_isCandidate 76 = .ok (.istore 4, 2) := by decide +kernel
theorem dX4_isCandidate_78 : decode cX4_isCandidate 78 = .ok (.iinc 5 1, 3) := by decide +kernel
theorem dX4_isCandidate_81 : decode cX4_isCandidate 81 = .ok (.goto (-54), 3) := by decide +kernel
theorem dX4_isCandidate_84 : decode cX4_isCandidate 84 = .ok (.iload 4, 2) := by decide +kernel
theorem dX4_isCandidate_86 : decode cX4_isCandidate 86 = .ok (.ireturn, 1) := by decide +kernel
theorem dX4_candidate_0 : decode cX4_candidate 0 = .ok (.iconst 0, 1) := by decide +kernel
theorem dX4_candidate_1 : decode cX4_candidate 1 = .ok (.istore 4, 2) := by decide +kernel
theorem dX4_candidate_3 : decode cX4_candidate 3 = .ok (.iconst 0, 1) := by decide +kernel
theorem dX4_candidate_4 : decode cX4_candidate 4 = .ok (.istore 5, 2) := by decide +kernel
theorem dX4_candidate_6 : decode cX4_candidate 6 = .ok (.iload 5, 2) := by decide +kernel
theorem dX4_candidate_8 : decode cX4_candidate 8 = .ok (.aload_n 0, 1) := by decide +kernel
theorem dX4_candidate_9 : decode cX4_candidate 9 = .ok (.getfield 76, 3) := by decide +kernel
theorem dX4_candidate_12 : decode cX4_candidate 12 = .ok (.if_icmp .ge 35, 3) := by decide +kernel
theorem dX4_candidate_15 : decode cX4_candidate 15 = .ok (.aload_n 0, 1) := by decide +kernel
theorem dX4_candidate_16 : decode cX4_candidate 16 = .ok (.iload 5, 2) := by decide +kernel
theorem dX4_candidate_18 : decode cX4_candidate 18 = .ok (.iload_n 2, 1) := by decide +kernel
theorem dX4_candidate_19 : decode cX4_candidate 19 = .ok (.iload_n 3, 1) := by decide +kernel
theorem dX4_candidate_20 : decode cX4_candidate 20 = .ok (.invokevirtual 157, 3) := by decide +kernel
theorem dX4_candidate_23 : decode cX4_candidate 23 = .ok (.ifCond .ne 6, 3) := by decide +kernel
theorem dX4_candidate_26 : decode cX4_candidate 26 = .ok (.goto 15, 3) := by decide +kernel
theorem dX4_candidate_29 : decode cX4_candidate 29 = .ok (.iload 4, 2) := by decide +kernel
theorem dX4_candidate_31 : decode cX4_candidate 31 = .ok (.iload_n 1, 1) := by decide +kernel
theorem dX4_candidate_32 : decode cX4_candidate 32 = .ok (.if_icmp .ne 6, 3) := by decide +kernel
theorem dX4_candidate_35 : decode cX4_candidate 35 = .ok (.iload 5, 2) := by decide +kernel
theorem dX4_candidate_37 : decode cX4_candidate 37 = .ok (.ireturn, 1) := by decide +kernel
theorem dX4_candidate_38 : decode cX4_candidate 38 = .ok (.iinc 4 1, 3) := by decide +kernel
theorem dX4_candidate_41 : decode cX4_candidate 41 = .ok (.iinc 5 1, 3) := by decide +kernel
theorem dX4_candidate_44 : decode cX4_candidate 44 = .ok (.goto (-38), 3) := by decide +kernel
theorem dX4_candidate_47 : decode cX4_candidate 47 = .ok (.iload_n 1, 1) := by decide +kernel
theorem dX4_candidate_48 : decode cX4_candidate 48 = .ok (.ifCond .ge 8, 3) := by decide +kernel
theorem dX4_candidate_51 : decode cX4_candidate 51 = .ok (.iload 4, 2) := by decide +kernel
theorem dX4_candidate_53 : decode cX4_candidate 53 = .ok (.goto 4, 3) := by decide +kernel
theorem dX4_candidate_56 : decode cX4_candidate 56 = .ok (.iconst (-1), 1) := by decide +kernel
theorem dX4_candidate_57 : decode cX4_candidate 57 = .ok (.ireturn, 1) := by decide +kernel
theorem dX4_quiz_0 : decode cX4_quiz 0 = .ok (.iload_n 1, 1) := by decide +kernel
theorem dX4_quiz_1 : decode cX4_quiz 1 = .ok (.iconst 0, 1) := by decide +kernel
theorem dX4_quiz_2 : decode cX4_quiz 2 = .ok (.sipush 1008, 3) := by decide +kernel
theorem dX4_quiz_5 : decode cX4_quiz 5 = .ok (.invokestatic 79, 3) := by decide +kernel
theorem dX4_quiz_8 : decode cX4_quiz 8 = .ok (.ifCond .eq 47, 3) := by decide +kernel
theorem dX4_quiz_11 : decode cX4_quiz 11 = .ok (.iload_n 2, 1) := by decide +kernel
theorem dX4_quiz_12 : decode cX4_quiz 12 = .ok (.iconst 0, 1) := by decide +kernel
theorem dX4_quiz_13 : decode cX4_quiz 13 = .ok (.bipush 9, 2) := by decide +kernel
theorem dX4_quiz_15 : decode cX4_quiz 15 = .ok (.invokestatic 79, 3) := by decide +kernel
theorem dX4_quiz_18 : decode cX4_quiz 18 = .ok (.ifCond .eq 37, 3) := by decide +kernel
theorem dX4_quiz_21 : decode cX4_quiz 21 = .ok (.iload_n 3, 1) := by decide +kernel
theorem dX4_quiz_22 : decode cX4_quiz 22 = .ok (.iconst 0, 1) := by decide +kernel
theorem dX4_quiz_23 : decode cX4_quiz 23 = .ok (.bipush 9, 2) := by decide +kernel
theorem dX4_quiz_25 : decode cX4_quiz 25 = .ok (.invokestatic 79, 3) := by decide +kernel
theorem dX4_quiz_28 : decode cX4_quiz 28 = .ok (.ifCond .eq 27, 3) := by decide +kernel
theorem dX4_quiz_31 : decode cX4_quiz 31 = .ok (.iload 4, 2) := by decide +kernel
theorem dX4_quiz_33 : decode cX4_quiz 33 = .ok (.iconst 0, 1) := by decide +kernel
theorem dX4_quiz_34 : decode cX4_quiz 34 = .ok (.bipush 9, 2) := by decide +kernel
theorem dX4_quiz_36 : decode cX4_quiz 36 = .ok (.invokestatic 79, 3) := by decide +kernel
theorem dX4_quiz_39 : decode cX4_quiz 39 = .ok (.ifCond .eq 16, 3) := by decide +kernel
theorem dX4_quiz_42 : decode cX4_quiz 42 = .ok (.iload_n 2, 1) := by decide +kernel
theorem dX4_quiz_43 : decode cX4_quiz 43 = .ok (.iload_n 3, 1) := by decide +kernel
theorem dX4_quiz_44 : decode cX4_quiz 44 = .ok (.iadd, 1) := by decide +kernel
theorem dX4_quiz_45 : decode cX4_quiz 45 = .ok (.iload 4, 2) := by decide +kernel
theorem dX4_quiz_47 : decode cX4_quiz 47 = .ok (.iadd, 1) := by decide +kernel
theorem dX4_quiz_48 : decode cX4_quiz 48 = .ok (.ifCond .le 7, 3) := by decide +kernel
theorem dX4_quiz_51 : decode cX4_quiz 51 = .ok (.iconst 1, 1) := by decide +kernel
theorem dX4_quiz_52 : decode cX4_quiz 52 = .ok (.goto 4, 3) := by decide +kernel
theorem dX4_quiz_55 : decode cX4_quiz 55 = .ok (.iconst 0, 1) := by decide +kernel
theorem dX4_quiz_56 : decode cX4_quiz 56 = .ok (.istore 5, 2) := by decide +kernel
theorem dX4_quiz_58 : decode cX4_quiz 58 = .ok (.aload_n 0, 1) := by decide +kernel
theorem dX4_quiz_59 : decode cX4_quiz 59 = .ok (.iload 5, 2) := by decide +kernel
theorem dX4_quiz_61 : decode cX4_quiz 61 = .ok (.ifCond .eq 7, 3) := by decide +kernel
theorem dX4_quiz_64 : decode cX4_quiz 64 = .ok (.iconst 0, 1) := by decide +kernel
theorem dX4_quiz_65 : decode cX4_quiz 65 = .ok (.goto 4, 3) := by decide +kernel
theorem dX4_quiz_68 : decode cX4_quiz 68 = .ok (.iconst 1, 1) := by decide +kernel
theorem dX4_quiz_69 : decode cX4_quiz 69 = .ok (.putfield 72, 3) := by decide +kernel
theorem dX4_quiz_72 : decode cX4_quiz 72 = .ok (.aload_n 0, 1) := by decide +kernel
theorem dX4_quiz_73 : decode cX4_quiz 73 = .ok (.getfield 72, 3) := by decide +kernel
theorem dX4_quiz_76 : decode cX4_quiz 76 = .ok (.ifCond .le 5, 3) := by decide +kernel
theorem dX4_quiz_79 : decode cX4_quiz 79 = .ok (.iconst 0, 1) := by decide +kernel
theorem dX4_quiz_80 : decode cX4_quiz 80 = .ok (.ireturn, 1) := by decide +kernel
theorem dX4_quiz_81 : decode cX4_quiz 81 = .ok (.aload_n 0, 1) := by decide +kernel
theorem dX4_quiz_82 : decode cX4_quiz 82 = .ok (.getfield 86, 3) := by decide +kernel
theorem dX4_quiz_85 : decode cX4_quiz 85 = .ok (.bipush 30, 2) := by decide +kernel
theorem dX4_quiz_87 : decode cX4_quiz 87 = .ok (.if_icmp .ne 26, 3) := by decide +kernel
theorem dX4_quiz_90 : decode cX4_quiz 90 = .ok (.aload_n 0, 1) := by decide +kernel
theorem dX4_quiz_91 : decode cX4_quiz 91 = .ok (.aload_n 0, 1) := by decide +kernel
theorem dX4_quiz_92 : decode cX4_quiz 92 = .ok (.iload_n 1, 1) := by decide +kernel
theorem dX4_quiz_93 : decode cX4_quiz 93 = .ok (.iload_n 2, 1) := by decide +kernel
theorem dX4_quiz_94 : decode cX4_quiz 94 = .ok (.iload_n 3, 1) := by decide +kernel
theorem dX4_quiz_95 : decode cX4_quiz 95 = .ok (.iload 4, 2) := by decide +kernel
theorem dX4_quiz_97 : decode cX4_quiz 97 = .ok (.invokevirtual 161, 3) := by decide +kernel
theorem dX4_quiz_100 : decode cX4_quiz 100 = .ok (.ifCond .eq 7, 3) := by decide +kernel
theorem dX4_quiz_103 : decode cX4_quiz 103 = .ok (.iconst 3, 1) := by decide +kernel
theorem dX4_quiz_104 : decode cX4_quiz 104 = .ok (.goto 4, 3) := by decide +kernel
theorem dX4_quiz_107 : decode cX4_quiz 107 = .ok (.iconst 2, 1) := by decide +kernel
theorem dX4_quiz_108 : decode cX4_quiz 108 = .ok (.putfield 72, 3) := by decide +kernel
theorem dX4_quiz_111 : decode cX4_quiz 111 = .ok (.iconst 0, 1) := by decide +kernel
theorem dX4_quiz_112 : decode cX4_quiz 112 = .ok (.ireturn, 1) := by decide +kernel
theorem dX4_quiz_113 : decode cX4_quiz 113 = .ok (.iload_n 1, 1) := by decide +kernel
theorem dX4_quiz_114 : decode cX4_quiz 114 = .ok (.istore 6, 2) := by decide +kernel
theorem dX4_quiz_116 : decode cX4_quiz 116 = .ok (.iconst 0, 1) := by decide +kernel
theorem dX4_quiz_117 : decode cX4_quiz 117 = .ok (.istore 7, 2) := by decide +kernel
theorem dX4_quiz_119 : decode cX4_quiz 119 = .ok (.iconst 0, 1) := by decide +kernel
theorem dX4_quiz_120 : decode cX4_quiz 120 = .ok (.istore 8, 2) := by decide +kernel
theorem dX4_quiz_122 : decode cX4_quiz 122 = .ok (.iload 8, 2) := by decide +kernel
theorem dX4_quiz_124 : decode cX4_quiz 124 = .ok (.iload_n 2, 1) := by decide +kernel
theorem dX4_quiz_125 : decode cX4_quiz 125 = .ok (.iload_n 3, 1) := by decide +kernel
theorem dX4_quiz_126 : decode cX4_quiz 126 = .ok (.iadd, 1) := by decide +kernel
theorem dX4_quiz_127 : decode cX4_quiz 127 = .ok (.iload 4, 2) := by decide +kernel
theorem dX4_quiz_129 : decode cX4_quiz 129 = .ok (.iadd, 1) := by decide +kernel
theorem dX4_quiz_130 : decode cX4_quiz 130 = .ok (.if_icmp .ge 103, 3) := by decide +kernel
theorem dX4_quiz_133 : decode cX4_quiz 133 = .ok (.iload 8, 2) := by decide +kernel
theorem dX4_quiz_135 : decode cX4_quiz 135 = .ok (.iload_n 2, 1) := by decide +kernel
theorem dX4_quiz_136 : decode cX4_quiz 136 = .ok (.if_icmp .ge 8, 3) := by decide +kernel
theorem dX4_quiz_139 : decode cX4_quiz 139 = .ok (.bipush 101, 2) := by decide +kernel
theorem dX4_quiz_141 : decode cX4_quiz 141 = .ok (.goto 18, 3) := by decide +kernel
theorem dX4_quiz_144 : decode cX4_quiz 144 = .ok (.iload 8, 2) := by decide +kernel
theorem dX4_quiz_146 : decode cX4_quiz 146 = .ok (.iload_n 2, 1) := by decide +kernel
theorem dX4_quiz_147 : decode cX4_quiz 147 = .ok (.iload_n 3, 1) := by decide +kernel
theorem dX4_quiz_148 : decode cX4_quiz 148 = .ok (.iadd, 1) := by decide +kernel
theorem dX4_quiz_149 : decode cX4_quiz 149 = .ok (.if_icmp .ge 8, 3) := by decide +kernel
theorem dX4_quiz_152 : decode cX4_quiz 152 = .ok (.bipush 109, 2) := by decide +kernel
theorem dX4_quiz_154 : decode cX4_quiz 154 = .ok (.goto 5, 3) := by decide +kernel
theorem dX4_quiz_157 : decode cX4_quiz 157 = .ok (.bipush 104, 2) := by decide +kernel
theorem dX4_quiz_159 : decode cX4_quiz 159 = .ok (.istore 9, 2) := by decide +kernel
theorem dX4_quiz_161 : decode cX4_quiz 161 = .ok (.aload_n 0, 1) := by decide +kernel
theorem dX4_quiz_162 : decode cX4_quiz 162 = .ok (.iconst (-1), 1) := by decide +kernel
theorem dX4_quiz_163 : decode cX4_quiz 163 = .ok (.iload 9, 2) := by decide +kernel
theorem dX4_quiz_165 : decode cX4_quiz 165 = .ok (.iload 7, 2) := by decide +kernel
theorem dX4_quiz_167 : decode cX4_quiz 167 = .ok (.invokevirtual 165, 3) := by decide +kernel
theorem dX4_quiz_170 : decode cX4_quiz 170 = .ok (.istore 10, 2) := by decide +kernel
theorem dX4_quiz_172 : decode cX4_quiz 172 = .ok (.iload 10, 2) := by decide +kernel
theorem dX4_quiz_174 : decode cX4_quiz 174 = .ok (.ifCond .ne 10, 3) := by decide +kernel
theorem dX4_quiz_177 : decode cX4_quiz 177 = .ok (.aload_n 0, 1) := by decide +kernel
theorem dX4_quiz_178 : decode cX4_quiz 178 = .ok (.iconst 2, 1) := by decide +kernel
theorem dX4_quiz_179 : decode cX4_quiz 179 = .ok (.putfield 72, 3) := by decide +kernel
theorem dX4_quiz_182 : decode cX4_quiz 182 = .ok (.iconst 0, 1) := by decide +kernel
theorem dX4_quiz_183 : decode cX4_quiz 183 = .ok (.ireturn, 1) := by decide +kernel
theorem dX4_quiz_184 : decode cX4_quiz 184 = .ok (.aload_n 0, 1) := by decide +kernel
theorem dX4_quiz_185 : decode cX4_quiz 185 = .ok (.getfield 60, 3) := by decide +kernel
theorem dX4_quiz_188 : decode cX4_quiz 188 = .ok (.bipush 27, 2) := by decide +kernel
theorem dX4_quiz_190 : decode cX4_quiz 190 = .ok (.aload_n 0, 1) := by decide +kernel
theorem dX4_quiz_191 : decode cX4_quiz 191 = .ok (.getfield 86, 3) := by decide +kernel
theorem dX4_quiz_194 : decode cX4_quiz 194 = .ok (.imul, 1) := by decide +kernel
theorem dX4_quiz_195 : decode cX4_quiz 195 = .ok (.iload 7, 2) := by decide +kernel
theorem dX4_quiz_197 : decode cX4_quiz 197 = .ok (.iadd, 1) := by decide +kernel
theorem dX4_quiz_198 : decode cX4_quiz 198 = .ok (.aload_n 0, 1) := by decide +kernel
theorem dX4_quiz_199 : decode cX4_quiz 199 = .ok (.iload 6, 2) := by decide +kernel
theorem dX4_quiz_201 : decode cX4_quiz 201 = .ok (.iload 10, 2) := by decide +kernel
theorem dX4_quiz_203 : decode cX4_quiz 203 = .ok (.irem, 1) := by decide +kernel
theorem dX4_quiz_204 : decode cX4_quiz 204 = .ok (.iload 9, 2) := by decide +kernel
theorem dX4_quiz_206 : decode cX4_quiz 206 = .ok (.iload 7, 2) := by decide +kernel
theorem dX4_quiz_208 : decode cX4_quiz 208 = .ok (.invokevirtual 165, 3) := by decide +kernel
theorem dX4_quiz_211 : decode cX4_quiz 211 = .ok (.iastore, 1) := by decide +kernel
theorem dX4_quiz_212 : decode cX4_quiz 212 = .ok (.iinc 7 1, 3) := by decide +kernel
theorem dX4_quiz_215 : decode cX4_quiz 215 = .ok (.iload 6, 2) := by decide +kernel
theorem dX4_quiz_217 : decode cX4_quiz 217 = .ok (.iconst 5, 1) := by decide +kernel
theorem dX4_quiz_218 : decode cX4_quiz 218 = .ok (.imul, 1) := by decide +kernel
theorem dX4_quiz_219 : decode cX4_quiz 219 = .ok (.iconst 3, 1) := by decide +kernel
theorem dX4_quiz_220 : decode cX4_quiz 220 = .ok (.iadd, 1) := by decide +kernel
theorem dX4_quiz_221 : decode cX4_quiz 221 = .ok (.sipush 1009, 3) := by decide +kernel
theorem dX4_quiz_224 : decode cX4_quiz 224 = .ok (.irem, 1) := by decide +kernel
theorem dX4_quiz_225 : decode cX4_quiz 225 = .ok (.istore 6, 2) := by decide +kernel
theorem dX4_quiz_227 : decode cX4_quiz 227 = .ok (.iinc 8 1, 3) := by decide +kernel
theorem dX4_quiz_230 : decode cX4_quiz 230 = .ok (.goto (-108), 3) := by decide +kernel
theorem dX4_quiz_233 : decode cX4_quiz 233 = .ok (.aload_n 0, 1) := by decide +kernel
theorem dX4_quiz_234 : decode cX4_quiz 234 = .ok (.iload 7, 2) := by decide +kernel
theorem dX4_quiz_236 : decode cX4_quiz 236 = .ok (.invokevirtual 169, 3) := by decide +kernel
theorem dX4_quiz_239 : decode cX4_quiz 239 = .ok (.aload_n 0, 1) := by decide +kernel
theorem dX4_quiz_240 : decode cX4_quiz 240 = .ok (.getfield 86, 3) := by decide +kernel
theorem dX4_quiz_243 : decode cX4_quiz 243 = .ok (.iconst 1, 1) := by decide +kernel
theorem dX4_quiz_244 : decode cX4_quiz 244 = .ok (.isub, 1) := by decide +kernel
theorem dX4_quiz_245 : decode cX4_quiz 245 = .ok (.ireturn, 1) := by decide +kernel
theorem dX4_isTrial_0 : decode cX4_isTrial 0 = .ok (.aload_n 0, 1) := by decide +kernel
theorem dX4_isTrial_1 : decode cX4_isTrial 1 = .ok (.iload_n 1, 1) := by decide +kernel
theorem dX4_isTrial_2 : decode cX4_isTrial 2 = .ok (.invokevirtual 107, 3) := by decide +kernel
theorem dX4_isTrial_5 : decode cX4_isTrial 5 = .ok (.iload_n 2, 1) := by decide +kernel
theorem dX4_isTrial_6 : decode cX4_isTrial 6 = .ok (.if_icmp .ne 15, 3) := by decide +kernel
theorem dX4_isTrial_9 : decode cX4_isTrial 9 = .ok (.aload_n 0, 1) := by decide +kernel
theorem dX4_isTrial_10 : decode cX4_isTrial 10 = .ok (.iload_n 1, 1) := by decide +kernel
theorem dX4_isTrial_11 : decode cX4_isTrial 11 = .ok (.invokevirtual 151, 3) := by decide +kernel
theorem dX4_isTrial_14 : decode cX4_isTrial 14 = .ok (.ifCond .eq 7, 3) := by decide +kernel
theorem dX4_isTrial_17 : decode cX4_isTrial 17 = .ok (.iconst 1, 1) := by decide +kernel
theorem dX4_isTrial_18 : decode cX4_isTrial 18 = .ok (.goto 4, 3) := by decide +kernel
theorem dX4_isTrial_21 : decode cX4_isTrial 21 = .ok (.iconst 0, 1) := by decide +kernel
theorem dX4_isTrial_22 : decode cX4_isTrial 22 = .ok (.istore 4, 2) := by decide +kernel
theorem dX4_isTrial_24 : decode cX4_isTrial 24 = .ok (.iconst 0, 1) := by decide +kernel
theorem dX4_isTrial_25 : decode cX4_isTrial 25 = .ok (.istore 5, 2) := by decide +kernel
theorem dX4_isTrial_27 : decode cX4_isTrial 27 = .ok (.iload 5, 2) := by decide +kernel
theorem dX4_isTrial_29 : decode cX4_isTrial 29 = .ok (.iload_n 3, 1) := by decide +kernel
theorem dX4_isTrial_30 : decode cX4_isTrial 30 = .ok (.if_icmp .ge 47, 3) := by decide +kernel
theorem dX4_isTrial_33 : decode cX4_isTrial 33 = .ok (.iload 4, 2) := by decide +kernel
theorem dX4_isTrial_35 : decode cX4_isTrial 35 = .ok (.ifCond .eq 42, 3) := by decide +kernel
theorem dX4_isTrial_38 : decode cX4_isTrial 38 = .ok (.aload_n 0, 1) := by decide +kernel
theorem dX4_isTrial_39 : decode cX4_isTrial 39 = .ok (.getfield 69, 3) := by decide +kernel
theorem dX4_isTrial_42 : decode cX4_isTrial 42 = .ok (.iload 5, 2) := by decide +kernel
theorem dX4_isTrial_44 : decode cX4_isTrial 44 = .ok (.iaload, 1) := by decide +kernel
theorem dX4_isTrial_45 : decode cX4_isTrial 45 = .ok (.iload_n 1, 1) := by decide +kernel
theorem dX4_isTrial_46 : decode cX4_isTrial 46 = .ok (.if_icmp .eq 22, 3) := by decide +kernel
theorem dX4_isTrial_49 : decode cX4_isTrial 49 = .ok (.aload_n 0, 1) := by decide +kernel
theorem dX4_isTrial_50 : decode cX4_isTrial 50 = .ok (.aload_n 0, 1) := by decide +kernel
theorem dX4_isTrial_51 : decode cX4_isTrial 51 = .ok (.getfield 69, 3) := by decide +kernel
theorem dX4_isTrial_54 : decode cX4_isTrial 54 = .ok (.iload 5, 2) := by decide +kernel
theorem dX4_isTrial_56 : decode cX4_isTrial 56 = .ok (.iaload, 1) := by decide +kernel
theorem dX4_isTrial_57 : decode cX4_isTrial 57 = .ok (.iload_n 1, 1) := by decide +kernel
theorem dX4_isTrial_58 : decode cX4_isTrial 58 = .ok (.invokevirtual 99, 3) := by decide +kernel
theorem dX4_isTrial_61 : decode cX4_isTrial 61 = .ok (.ifCond .ne 7, 3) := by decide +kernel
theorem dX4_isTrial_64 : decode cX4_isTrial 64 = .ok (.iconst 1, 1) := by decide +kernel
theorem dX4_isTrial_65 : decode cX4_isTrial 65 = .ok (.goto 4, 3) := by decide +kernel
theorem dX4_isTrial_68 : decode cX4_isTrial 68 = .ok (.iconst 0, 1) := by decide +kernel
theorem dX4_isTrial_69 : decode cX4_isTrial 69 = .ok (.istore 4, 2) := by decide +kernel
theorem dX4_isTrial_71 : decode cX4_isTrial 71 = .ok (.iinc 5 1, 3) := by decide +kernel
theorem dX4_isTrial_74 : decode cX4_isTrial 74 = .ok (.goto (-47), 3) := by decide +kernel
theorem dX4_isTrial_77 : decode cX4_isTrial 77 = .ok (.iload 4, 2) := by decide +kernel
theorem dX4_isTrial_79 : decode cX4_isTrial 79 = .ok (.ireturn, 1) := by decide +kernel
theorem dX4_canDraw_0 : decode cX4_canDraw 0 = .ok (.iload_n 1, 1) := by decide +kernel
theorem dX4_canDraw_1 : decode cX4_canDraw 1 = .ok (.istore 5, 2) := by decide +kernel
theorem dX4_canDraw_3 : decode cX4_canDraw 3 = .ok (.iconst 0, 1) := by decide +kernel
theorem dX4_canDraw_4 : decode cX4_canDraw 4 = .ok (.istore 6, 2) := by decide +kernel
theorem dX4_canDraw_6 : decode cX4_canDraw 6 = .ok (.iload 6, 2) := by decide +kernel
theorem dX4_canDraw_8 : decode cX4_canDraw 8 = .ok (.iload_n 2, 1) := by decide +kernel
theorem dX4_canDraw_9 : decode cX4_canDraw 9 = .ok (.iload_n 3, 1) := by decide +kernel
theorem dX4_canDraw_10 : decode cX4_canDraw 10 = .ok (.iadd, 1) := by decide +kernel
theorem dX4_canDraw_11 : decode cX4_canDraw 11 = .ok (.iload 4, 2) := by decide +kernel
theorem dX4_canDraw_13 : decode cX4_canDraw 13 = .ok (.iadd, 1) := by decide +kernel
theorem dX4_canDraw_14 : decode cX4_canDraw 14 = .ok (.if_icmp .ge 175, 3) := by decide +kernel
theorem dX4_canDraw_17 : decode cX4_canDraw 17 = .ok (.iload 6, 2) := by decide +kernel
theorem dX4_canDraw_19 : decode cX4_canDraw 19 = .ok (.iload_n 2, 1) := by decide +kernel
theorem dX4_canDraw_20 : decode cX4_canDraw 20 = .ok (.if_icmp .ge 8, 3) := by decide +kernel
theorem dX4_canDraw_23 : decode cX4_canDraw 23 = .ok (.bipush 101, 2) := by decide +kernel
theorem dX4_canDraw_25 : decode cX4_canDraw 25 = .ok (.goto 18, 3) := by decide +kernel
theorem dX4_canDraw_28 : decode cX4_canDraw 28 = .ok (.iload 6, 2) := by decide +kernel
theorem dX4_canDraw_30 : decode cX4_canDraw 30 = .ok (.iload_n 2, 1) := by decide +kernel
theorem dX4_canDraw_31 : decode cX4_canDraw 31 = .ok (.iload_n 3, 1) := by decide +kernel
theorem dX4_canDraw_32 : decode cX4_canDraw 32 = .ok (.iadd, 1) := by decide +kernel
theorem dX4_canDraw_33 : decode cX4_canDraw 33 = .ok (.if_icmp .ge 8, 3) := by decide +kernel
theorem dX4_canDraw_36 : decode cX4_canDraw 36 = .ok (.bipush 109, 2) := by decide +kernel
theorem dX4_canDraw_38 : decode cX4_canDraw 38 = .ok (.goto 5, 3) := by decide +kernel
theorem dX4_canDraw_41 : decode cX4_canDraw 41 = .ok (.bipush 104, 2) := by decide +kernel
theorem dX4_canDraw_43 : decode cX4_canDraw 43 = .ok (.istore 7, 2) := by decide +kernel
theorem dX4_canDraw_45 : decode cX4_canDraw 45 = .ok (.iconst 0, 1) := by decide +kernel
theorem dX4_canDraw_46 : decode cX4_canDraw 46 = .ok (.istore 8, 2) := by decide +kernel
theorem dX4_canDraw_48 : decode cX4_canDraw 48 = .ok (.iconst 0, 1) := by decide +kernel
theorem dX4_canDraw_49 : decode cX4_canDraw 49 = .ok (.istore 9, 2) := by decide +kernel
theorem dX4_canDraw_51 : decode cX4_canDraw 51 = .ok (.iload 9, 2) := by decide +kernel
theorem dX4_canDraw_53 : decode cX4_canDraw 53 = .ok (.aload_n 0, 1) := by decide +kernel
theorem dX4_canDraw_54 : decode cX4_canDraw 54 = .ok (.getfield 76, 3) := by decide +kernel
theorem dX4_canDraw_57 : decode cX4_canDraw 57 = .ok (.if_icmp .ge 32, 3) := by decide +kernel
theorem dX4_canDraw_60 : decode cX4_canDraw 60 = .ok (.iload 8, 2) := by decide +kernel
theorem dX4_canDraw_62 : decode cX4_canDraw 62 = .ok (.aload_n 0, 1) := by decide +kernel
theorem dX4_canDraw_63 : decode cX4_canDraw 63 = .ok (.iload 9, 2) := by decide +kernel
theorem dX4_canDraw_65 : decode cX4_canDraw 65 = .ok (.iload 7, 2) := by decide +kernel
theorem dX4_canDraw_67 : decode cX4_canDraw 67 = .ok (.iload 6, 2) := by decide +kernel
theorem dX4_canDraw_69 : decode cX4_canDraw 69 = .ok (.invokevirtual 173, 3) := by decide +kernel
theorem dX4_canDraw_72 : decode cX4_canDraw 72 = .ok (.ifCond .eq 7, 3) := by decide +kernel
theorem dX4_canDraw_75 : decode cX4_canDraw 75 = .ok (.iconst 1, 1) := by decide +kernel
theorem dX4_canDraw_76 : decode cX4_canDraw 76 = .ok (.goto 4, 3) := by decide +kernel
theorem dX4_canDraw_79 : decode cX4_canDraw 79 = .ok (.iconst 0, 1) := by decide +kernel
theorem dX4_canDraw_80 : decode cX4_canDraw 80 = .ok (.iadd, 1) := by decide +kernel
theorem dX4_canDraw_81 : decode cX4_canDraw 81 = .ok (.istore 8, 2) := by decide +kernel
theorem dX4_canDraw_83 : decode cX4_canDraw 83 = .ok (.iinc 9 1, 3) := by decide +kernel
theorem dX4_canDraw_86 : decode cX4_canDraw 86 = .ok (.goto (-35), 3) := by decide +kernel
theorem dX4_canDraw_89 : decode cX4_canDraw 89 = .ok (.iload 8, 2) := by decide +kernel
theorem dX4_canDraw_91 : decode cX4_canDraw 91 = .ok (.ifCond .ne 5, 3) := by decide +kernel
theorem dX4_canDraw_94 : decode cX4_canDraw 94 = .ok (.iconst 0, 1) := by decide +kernel
theorem dX4_canDraw_95 : decode cX4_canDraw 95 = .ok (.ireturn, 1) := by decide +kernel
theorem dX4_canDraw_96 : decode cX4_canDraw 96 = .ok (.iload 5, 2) := by decide +kernel
theorem dX4_canDraw_98 : decode cX4_canDraw 98 = .ok (.iload 8, 2) := by decide +kernel
theorem dX4_canDraw_100 : decode cX4_canDraw 100 = .ok (.irem, 1) := by decide +kernel
theorem dX4_canDraw_101 : decode cX4_canDraw 101 = .ok (.istore 9, 2) := by decide +kernel
theorem dX4_canDraw_103 : decode cX4_canDraw 103 = .ok (.iconst (-1), 1) := by decide +kernel
theorem dX4_canDraw_104 : decode cX4_canDraw 104 = .ok (.istore 10, 2) := by decide +kernel
theorem dX4_canDraw_106 : decode cX4_canDraw 106 = .ok (.iconst 0, 1) := by decide +kernel
theorem dX4_canDraw_107 : decode cX4_canDraw 107 = .ok (.istore 11, 2) := by decide +kernel
theorem dX4_canDraw_109 : decode cX4_canDraw 109 = .ok (.iload 11, 2) := by decide +kernel
theorem dX4_canDraw_111 : decode cX4_canDraw 111 = .ok (.aload_n 0, 1) := by decide +kernel
theorem dX4_canDraw_112 : decode cX4_canDraw 112 = .ok (.getfield 76, 3) := by decide +kernel
theorem dX4_canDraw_115 : decode cX4_canDraw 115 = .ok (.if_icmp .ge 47, 3) := by decide +kernel
theorem dX4_canDraw_118 : decode cX4_canDraw 118 = .ok (.iload 10, 2) := by decide +kernel
theorem dX4_canDraw_120 : decode cX4_canDraw 120 = .ok (.iconst (-1), 1) := by decide +kernel
theorem dX4_canDraw_121 : decode cX4_canDraw 121 = .ok (.if_icmp .ne 41, 3) := by decide +kernel
theorem dX4_canDraw_124 : decode cX4_canDraw 124 = .ok (.aload_n 0, 1) := by decide +kernel
theorem dX4_canDraw_125 : decode cX4_canDraw 125 = .ok (.iload 11, 2) := by decide +kernel
theorem dX4_canDraw_127 : decode cX4_canDraw 127 = .ok (.iload 7, 2) := by decide +kernel
theorem dX4_canDraw_129 : decode cX4_canDraw 129 = .ok (.iload 6, 2) := by decide +kernel
theorem dX4_canDraw_131 : decode cX4_canDraw 131 = .ok (.invokevirtual 173, 3) := by decide +kernel
theorem dX4_canDraw_134 : decode cX4_canDraw 134 = .ok (.ifCond .ne 6, 3) := by decide +kernel
theorem dX4_canDraw_137 : decode cX4_canDraw 137 = .ok (.goto 19, 3) := by decide +kernel
theorem dX4_canDraw_140 : decode cX4_canDraw 140 = .ok (.iload 9, 2) := by decide +kernel
theorem dX4_canDraw_142 : decode cX4_canDraw 142 = .ok (.ifCond .ne 8, 3) := by decide +kernel
theorem dX4_canDraw_145 : decode cX4_canDraw 145 = .ok (.iload 11, 2) := by decide +kernel
theorem dX4_canDraw_147 : decode cX4_canDraw 147 = .ok (.goto 4, 3) := by decide +kernel
theorem dX4_canDraw_150 : decode cX4_canDraw 150 = .ok (.iconst (-1), 1) := by decide +kernel
theorem dX4_canDraw_151 : decode cX4_canDraw 151 = .ok (.istore 10, 2) := by decide +kernel
theorem dX4_canDraw_153 : decode cX4_canDraw 153 = .ok (.iinc 9 (-1), 3) := by decide +kernel
theorem dX4_canDraw_156 : decode cX4_canDraw 156 = .ok (.iinc 11 1, 3) := by decide +kernel
theorem dX4_canDraw_159 : decode cX4_canDraw 159 = .ok (.goto (-50), 3) := by decide +kernel
theorem dX4_canDraw_162 : decode cX4_canDraw 162 = .ok (.aload_n 0, 1) := by decide +kernel
theorem dX4_canDraw_163 : decode cX4_canDraw 163 = .ok (.getfield 69, 3) := by decide +kernel
theorem dX4_canDraw_166 : decode cX4_canDraw 166 = .ok (.iload 6, 2) := by decide +kernel
theorem dX4_canDraw_168 : decode cX4_canDraw 168 = .ok (.iload 10, 2) := by decide +kernel
theorem dX4_canDraw_170 : decode cX4_canDraw 170 = .ok (.iastore, 1) := by decide +kernel
theorem dX4_canDraw_171 : decode cX4_canDraw 171 = .ok (.iload 5, 2) := by decide +kernel
theorem dX4_canDraw_173 : decode cX4_canDraw 173 = .ok (.iconst 5, 1) := by decide +kernel
theorem dX4_canDraw_174 : decode cX4_canDraw 174 = .ok (.imul, 1) := by decide +kernel
theorem dX4_canDraw_175 : decode cX4_canDraw 175 = .ok (.iconst 3, 1) := by decide +kernel
theorem dX4_canDraw_176 : decode cX4_canDraw 176 = .ok (.iadd, 1) := by decide +kernel
theorem dX4_canDraw_177 : decode cX4_canDraw 177 = .ok (.sipush 1009, 3) := by decide +kernel
theorem dX4_canDraw_180 : decode cX4_canDraw 180 = .ok (.irem, 1) := by decide +kernel
theorem dX4_canDraw_181 : decode cX4_canDraw 181 = .ok (.istore 5, 2) := by decide +kernel
theorem dX4_canDraw_183 : decode cX4_canDraw 183 = .ok (.iinc 6 1, 3) := by decide +kernel
theorem dX4_canDraw_186 : decode cX4_canDraw 186 = .ok (.goto (-180), 3) := by decide +kernel
theorem dX4_canDraw_189 : decode cX4_canDraw 189 = .ok (.iconst 1, 1) := by decide +kernel
theorem dX4_canDraw_190 : decode cX4_canDraw 190 = .ok (.ireturn, 1) := by decide +kernel
theorem dX4_made_0 : decode cX4_made 0 = .ok (.aload_n 0, 1) := by decide +kernel
theorem dX4_made_1 : decode cX4_made 1 = .ok (.getfield 63, 3) := by decide +kernel
theorem dX4_made_4 : decode cX4_made 4 = .ok (.aload_n 0, 1) := by decide +kernel
theorem dX4_made_5 : decode cX4_made 5 = .ok (.getfield 86, 3) := by decide +kernel
theorem dX4_made_8 : decode cX4_made 8 = .ok (.iload_n 1, 1) := by decide +kernel
theorem dX4_made_9 : decode cX4_made 9 = .ok (.iastore, 1) := by decide +kernel
theorem dX4_made_10 : decode cX4_made 10 = .ok (.aload_n 0, 1) := by decide +kernel
theorem dX4_made_11 : decode cX4_made 11 = .ok (.getfield 50, 3) := by decide +kernel
theorem dX4_made_14 : decode cX4_made 14 = .ok (.aload_n 0, 1) := by decide +kernel
theorem dX4_made_15 : decode cX4_made 15 = .ok (.getfield 86, 3) := by decide +kernel
theorem dX4_made_18 : decode cX4_made 18 = .ok (.bipush 115, 2) := by decide +kernel
theorem dX4_made_20 : decode cX4_made 20 = .ok (.castore, 1) := by decide +kernel
theorem dX4_made_21 : decode cX4_made 21 = .ok (.aload_n 0, 1) := by decide +kernel
theorem dX4_made_22 : decode cX4_made 22 = .ok (.dup, 1) := by decide +kernel
theorem dX4_made_23 : decode cX4_made 23 = .ok (.getfield 86, 3) := by decide +kernel
theorem dX4_made_26 : decode cX4_made 26 = .ok (.iconst 1, 1) := by decide +kernel
theorem dX4_made_27 : decode cX4_made 27 = .ok (.iadd, 1) := by decide +kernel
theorem dX4_made_28 : decode cX4_made 28 = .ok (.putfield 86, 3) := by decide +kernel
theorem dX4_made_31 : decode cX4_made 31 = .ok (.aload_n 0, 1) := by decide +kernel
theorem dX4_made_32 : decode cX4_made 32 = .ok (.invokevirtual 92, 3) := by decide +kernel
theorem dX4_made_35 : decode cX4_made 35 = .ok (.return_, 1) := by decide +kernel
theorem dX4_quizOf_0 : decode cX4_quizOf 0 = .ok (.aload_n 0, 1) := by decide +kernel
theorem dX4_quizOf_1 : decode cX4_quizOf 1 = .ok (.aload_n 0, 1) := by decide +kernel
theorem dX4_quizOf_2 : decode cX4_quizOf 2 = .ok (.iload_n 1, 1) := by decide +kernel
theorem dX4_quizOf_3 : decode cX4_quizOf 3 = .ok (.invokevirtual 136, 3) := by decide +kernel
theorem dX4_quizOf_6 : decode cX4_quizOf 6 = .ok (.ifCond .ne 7, 3) := by decide +kernel
theorem dX4_quizOf_9 : decode cX4_quizOf 9 = .ok (.iconst 1, 1) := by decide +kernel
theorem dX4_quizOf_10 : decode cX4_quizOf 10 = .ok (.goto 52, 3) := by decide +kernel
theorem dX4_quizOf_13 : decode cX4_quizOf 13 = .ok (.aload_n 0, 1) := by decide +kernel
theorem dX4_quizOf_14 : decode cX4_quizOf 14 = .ok (.getfield 53, 3) := by decide +kernel
theorem dX4_quizOf_17 : decode cX4_quizOf 17 = .ok (.iload_n 1, 1) := by decide +kernel
theorem dX4_quizOf_18 : decode cX4_quizOf 18 = .ok (.baload, 1) := by decide +kernel
theorem dX4_quizOf_19 : decode cX4_quizOf 19 = .ok (.ifCond .ne 25, 3) := by decide +kernel
theorem dX4_quizOf_22 : decode cX4_quizOf 22 = .ok (.aload_n 0, 1) := by decide +kernel
theorem dX4_quizOf_23 : decode cX4_quizOf 23 = .ok (.getfield 34, 3) := by decide +kernel
theorem dX4_quizOf_26 : decode cX4_quizOf 26 = .ok (.iload_n 1, 1) := by decide +kernel
theorem dX4_quizOf_27 : decode cX4_quizOf 27 = .ok (.iaload, 1) := by decide +kernel
theorem dX4_quizOf_28 : decode cX4_quizOf 28 = .ok (.aload_n 0, 1) := by decide +kernel
theorem dX4_quizOf_29 : decode cX4_quizOf 29 = .ok (.getfield 123, 3) := by decide +kernel
theorem dX4_quizOf_32 : decode cX4_quizOf 32 = .ok (.if_icmp .ne 12, 3) := by decide +kernel
theorem dX4_quizOf_35 : decode cX4_quizOf 35 = .ok (.aload_n 0, 1) := by decide +kernel
theorem dX4_quizOf_36 : decode cX4_quizOf 36 = .ok (.getfield 43, 3) := by decide +kernel
theorem dX4_quizOf_39 : decode cX4_quizOf 39 = .ok (.iload_n 1, 1) := by decide +kernel
theorem dX4_quizOf_40 : decode cX4_quizOf 40 = .ok (.iaload, 1) := by decide +kernel
theorem dX4_quizOf_41 : decode cX4_quizOf 41 = .ok (.ifCond .ne 7, 3) := by decide +kernel
theorem dX4_quizOf_44 : decode cX4_quizOf 44 = .ok (.iconst 2, 1) := by decide +kernel
theorem dX4_quizOf_45 : decode cX4_quizOf 45 = .ok (.goto 17, 3) := by decide +kernel
theorem dX4_quizOf_48 : decode cX4_quizOf 48 = .ok (.aload_n 0, 1) := by decide +kernel
theorem dX4_quizOf_49 : decode cX4_quizOf 49 = .ok (.getfield 86, 3) := by decide +kernel
theorem dX4_quizOf_52 : decode cX4_quizOf 52 = .ok (.bipush 30, 2) := by decide +kernel
theorem dX4_quizOf_54 : decode cX4_quizOf 54 = .ok (.if_icmp .ne 7, 3) := by decide +kernel
theorem dX4_quizOf_57 : decode cX4_quizOf 57 = .ok (.iconst 3, 1) := by decide +kernel
theorem dX4_quizOf_58 : decode cX4_quizOf 58 = .ok (.goto 4, 3) := by decide +kernel
theorem dX4_quizOf_61 : decode cX4_quizOf 61 = .ok (.iconst 0, 1) := by decide +kernel
theorem dX4_quizOf_62 : decode cX4_quizOf 62 = .ok (.putfield 72, 3) := by decide +kernel
theorem dX4_quizOf_65 : decode cX4_quizOf 65 = .ok (.aload_n 0, 1) := by decide +kernel
theorem dX4_quizOf_66 : decode cX4_quizOf 66 = .ok (.getfield 72, 3) := by decide +kernel
theorem dX4_quizOf_69 : decode cX4_quizOf 69 = .ok (.ifCond .le 5, 3) := by decide +kernel
theorem dX4_quizOf_72 : decode cX4_quizOf 72 = .ok (.iconst 0, 1) := by decide +kernel
theorem dX4_quizOf_73 : decode cX4_quizOf 73 = .ok (.ireturn, 1) := by decide +kernel
theorem dX4_quizOf_74 : decode cX4_quizOf 74 = .ok (.aload_n 0, 1) := by decide +kernel
theorem dX4_quizOf_75 : decode cX4_quizOf 75 = .ok (.getfield 43, 3) := by decide +kernel
theorem dX4_quizOf_78 : decode cX4_quizOf 78 = .ok (.iload_n 1, 1) := by decide +kernel
theorem dX4_quizOf_79 : decode cX4_quizOf 79 = .ok (.iaload, 1) := by decide +kernel
theorem dX4_quizOf_80 : decode cX4_quizOf 80 = .ok (.istore_n 2, 1) := by decide +kernel
theorem dX4_quizOf_81 : decode cX4_quizOf 81 = .ok (.iconst 0, 1) := by decide +kernel
theorem dX4_quizOf_82 : decode cX4_quizOf 82 = .ok (.istore_n 3, 1) := by decide +kernel
theorem dX4_quizOf_83 : decode cX4_quizOf 83 = .ok (.iload_n 3, 1) := by decide +kernel
theorem dX4_quizOf_84 : decode cX4_quizOf 84 = .ok (.iload_n 2, 1) := by decide +kernel
theorem dX4_quizOf_85 : decode cX4_quizOf 85 = .ok (.if_icmp .ge 34, 3) := by decide +kernel
theorem dX4_quizOf_88 : decode cX4_quizOf 88 = .ok (.aload_n 0, 1) := by decide +kernel
theorem dX4_quizOf_89 : decode cX4_quizOf 89 = .ok (.getfield 60, 3) := by decide +kernel
theorem dX4_quizOf_92 : decode cX4_quizOf 92 = .ok (.bipush 27, 2) := by decide +kernel
theorem dX4_quizOf_94 : decode cX4_quizOf 94 = .ok (.aload_n 0, 1) := by decide +kernel
theorem dX4_quizOf_95 : decode cX4_quizOf 95 = .ok (.getfield 86, 3) := by decide +kernel
theorem dX4_quizOf_98 : decode cX4_quizOf 98 = .ok (.imul, 1) := by decide +kernel
theorem dX4_quizOf_99 : decode cX4_quizOf 99 = .ok (.iload_n 3, 1) := by decide +kernel
theorem dX4_quizOf_100 : decode cX4_quizOf 100 = .ok (.iadd, 1) := by decide +kernel
theorem dX4_quizOf_101 : decode cX4_quizOf 101 = .ok (.aload_n 0, 1) := by decide +kernel
theorem dX4_quizOf_102 : decode cX4_quizOf 102 = .ok (.getfield 40, 3) := by decide +kernel
theorem dX4_quizOf_105 : decode cX4_quizOf 105 = .ok (.bipush 9, 2) := by decide +kernel
theorem dX4_quizOf_107 : decode cX4_quizOf 107 = .ok (.iload_n 1, 1) := by decide +kernel
theorem dX4_quizOf_108 : decode cX4_quizOf 108 = .ok (.imul, 1) := by decide +kernel
theorem dX4_quizOf_109 : decode cX4_quizOf 109 = .ok (.iload_n 3, 1) := by decide +kernel
theorem dX4_quizOf_110 : decode cX4_quizOf 110 = .ok (.iadd, 1) := by decide +kernel
theorem dX4_quizOf_111 : decode cX4_quizOf 111 = .ok (.iaload, 1) := by decide +kernel
theorem dX4_quizOf_112 : decode cX4_quizOf 112 = .ok (.iastore, 1) := by decide +kernel
theorem dX4_quizOf_113 : decode cX4_quizOf 113 = .ok (.iinc 3 1, 3) := by decide +kernel
theorem dX4_quizOf_116 : decode cX4_quizOf 116 = .ok (.goto (-33), 3) := by decide +kernel
theorem dX4_quizOf_119 : decode cX4_quizOf 119 = .ok (.aload_n 0, 1) := by decide +kernel
theorem dX4_quizOf_120 : decode cX4_quizOf 120 = .ok (.getfield 53, 3) := by decide +kernel
theorem dX4_quizOf_123 : decode cX4_quizOf 123 = .ok (.iload_n 1, 1) := by decide +kernel
theorem dX4_quizOf_124 : decode cX4_quizOf 124 = .ok (.iconst 1, 1) := by decide +kernel
theorem dX4_quizOf_125 : decode cX4_quizOf 125 = .ok (.bastore, 1) := by decide +kernel
theorem dX4_quizOf_126 : decode cX4_quizOf 126 = .ok (.aload_n 0, 1) := by decide +kernel
theorem dX4_quizOf_127 : decode cX4_quizOf 127 = .ok (.iload_n 2, 1) := by decide +kernel
theorem dX4_quizOf_128 : decode cX4_quizOf 128 = .ok (.invokevirtual 169, 3) := by decide +kernel
theorem dX4_quizOf_131 : decode cX4_quizOf 131 = .ok (.aload_n 0, 1) := by decide +kernel
theorem dX4_quizOf_132 : decode cX4_quizOf 132 = .ok (.getfield 86, 3) := by decide +kernel
theorem dX4_quizOf_135 : decode cX4_quizOf 135 = .ok (.iconst 1, 1) := by decide +kernel
theorem dX4_quizOf_136 : decode cX4_quizOf 136 = .ok (.isub, 1) := by decide +kernel
theorem dX4_quizOf_137 : decode cX4_quizOf 137 = .ok (.ireturn, 1) := by decide +kernel
theorem dX4_wrongSheet_0 : decode cX4_wrongSheet 0 = .ok (.aload_n 0, 1) := by decide +kernel
theorem dX4_wrongSheet_1 : decode cX4_wrongSheet 1 = .ok (.aload_n 0, 1) := by decide +kernel
theorem dX4_wrongSheet_2 : decode cX4_wrongSheet 2 = .ok (.iload_n 1, 1) := by decide +kernel
theorem dX4_wrongSheet_3 : decode cX4_wrongSheet 3 = .ok (.invokevirtual 176, 3) := by decide +kernel
theorem dX4_wrongSheet_6 : decode cX4_wrongSheet 6 = .ok (.ifCond .eq 7, 3) := by decide +kernel
theorem dX4_wrongSheet_9 : decode cX4_wrongSheet 9 = .ok (.iconst 0, 1) := by decide +kernel
theorem dX4_wrongSheet_10 : decode cX4_wrongSheet 10 = .ok (.goto 4, 3) := by decide +kernel
theorem dX4_wrongSheet_13 : decode cX4_wrongSheet 13 = .ok (.iconst 1, 1) := by decide +kernel
theorem dX4_wrongSheet_14 : decode cX4_wrongSheet 14 = .ok (.putfield 72, 3) := by decide +kernel
theorem dX4_wrongSheet_17 : decode cX4_wrongSheet 17 = .ok (.aload_n 0, 1) := by decide +kernel
theorem dX4_wrongSheet_18 : decode cX4_wrongSheet 18 = .ok (.getfield 72, 3) := by decide +kernel
theorem dX4_wrongSheet_21 : decode cX4_wrongSheet 21 = .ok (.ireturn, 1) := by decide +kernel
theorem dX4_size_0 : decode cX4_size 0 = .ok (.aload_n 0, 1) := by decide +kernel
theorem dX4_size_1 : decode cX4_size 1 = .ok (.iload_n 1, 1) := by decide +kernel
theorem dX4_size_2 : decode cX4_size 2 = .ok (.invokevirtual 179, 3) := by decide +kernel
theorem dX4_size_5 : decode cX4_size 5 = .ok (.ifCond .le 7, 3) := by decide +kernel
theorem dX4_size_8 : decode cX4_size 8 = .ok (.iconst 0, 1) := by decide +kernel
theorem dX4_size_9 : decode cX4_size 9 = .ok (.goto 9, 3) := by decide +kernel
theorem dX4_size_12 : decode cX4_size 12 = .ok (.aload_n 0, 1) := by decide +kernel
theorem dX4_size_13 : decode cX4_size 13 = .ok (.getfield 63, 3) := by decide +kernel
theorem dX4_size_16 : decode cX4_size 16 = .ok (.iload_n 1, 1) := by decide +kernel
theorem dX4_size_17 : decode cX4_size 17 = .ok (.iaload, 1) := by decide +kernel
theorem dX4_size_18 : decode cX4_size 18 = .ok (.ireturn, 1) := by decide +kernel
theorem dX4_questionAt_0 : decode cX4_questionAt 0 = .ok (.aload_n 0, 1) := by decide +kernel
theorem dX4_questionAt_1 : decode cX4_questionAt 1 = .ok (.iload_n 1, 1) := by decide +kernel
theorem dX4_questionAt_2 : decode cX4_questionAt 2 = .ok (.invokevirtual 179, 3) := by decide +kernel
theorem dX4_questionAt_5 : decode cX4_questionAt 5 = .ok (.ifCond .ne 24, 3) := by decide +kernel
theorem dX4_questionAt_8 : decode cX4_questionAt 8 = .ok (.iload_n 2, 1) := by decide +kernel
theorem dX4_questionAt_9 : decode cX4_questionAt 9 = .ok (.iconst 0, 1) := by decide +kernel
theorem dX4_questionAt_10 : decode cX4_questionAt 10 = .ok (.aload_n 0, 1) := by decide +kernel
theorem dX4_questionAt_11 : decode cX4_questionAt 11 = .ok (.getfield 63, 3) := by decide +kernel
theorem dX4_questionAt_14 : decode cX4_questionAt 14 = .ok (.iload_n 1, 1) := by decide +kernel
theorem dX4_questionAt_15 : decode cX4_questionAt 15 = .ok (.iaload, 1) := by decide +kernel
theorem dX4_questionAt_16 : decode cX4_questionAt 16 = .ok (.iconst 1, 1) := by decide +kernel
theorem dX4_questionAt_17 : decode cX4_questionAt 17 = .ok (.isub, 1) := by decide +kernel
theorem dX4_questionAt_18 : decode cX4_questionAt 18 = .ok (.invokestatic 79, 3) := by decide +kernel
theorem dX4_questionAt_21 : decode cX4_questionAt 21 = .ok (.ifCond .ne 8, 3) := by decide +kernel
theorem dX4_questionAt_24 : decode cX4_questionAt 24 = .ok (.aload_n 0, 1) := by decide +kernel
theorem dX4_questionAt_25 : decode cX4_questionAt 25 = .ok (.iconst 2, 1) := by decide +kernel
theorem dX4_questionAt_26 : decode cX4_questionAt 26 = .ok (.putfield 72, 3) := by decide +kernel
theorem dX4_questionAt_29 : decode cX4_questionAt 29 = .ok (.aload_n 0, 1) := by decide +kernel
theorem dX4_questionAt_30 : decode cX4_questionAt 30 = .ok (.getfield 72, 3) := by decide +kernel
theorem dX4_questionAt_33 : decode cX4_questionAt 33 = .ok (.ifCond .le 7, 3) := by decide +kernel
theorem dX4_questionAt_36 : decode cX4_questionAt 36 = .ok (.iconst 0, 1) := by decide +kernel
theorem dX4_questionAt_37 : decode cX4_questionAt 37 = .ok (.goto 14, 3) := by decide +kernel
theorem dX4_questionAt_40 : decode cX4_questionAt 40 = .ok (.aload_n 0, 1) := by decide +kernel
theorem dX4_questionAt_41 : decode cX4_questionAt 41 = .ok (.getfield 60, 3) := by decide +kernel
theorem dX4_questionAt_44 : decode cX4_questionAt 44 = .ok (.bipush 27, 2) := by decide +kernel
theorem dX4_questionAt_46 : decode cX4_questionAt 46 = .ok (.iload_n 1, 1) := by decide +kernel
theorem dX4_questionAt_47 : decode cX4_questionAt 47 = .ok (.imul, 1) := by decide +kernel
theorem dX4_questionAt_48 : decode cX4_questionAt 48 = .ok (.iload_n 2, 1) := by decide +kernel
theorem dX4_questionAt_49 : decode cX4_questionAt 49 = .ok (.iadd, 1) := by decide +kernel
theorem dX4_questionAt_50 : decode cX4_questionAt 50 = .ok (.iaload, 1) := by decide +kernel
theorem dX4_questionAt_51 : decode cX4_questionAt 51 = .ok (.ireturn, 1) := by decide +kernel
theorem dX4_stateOf_0 : decode cX4_stateOf 0 = .ok (.aload_n 0, 1) := by decide +kernel
theorem dX4_stateOf_1 : decode cX4_stateOf 1 = .ok (.iload_n 1, 1) := by decide +kernel
theorem dX4_stateOf_2 : decode cX4_stateOf 2 = .ok (.invokevirtual 179, 3) := by decide +kernel
theorem dX4_stateOf_5 : decode cX4_stateOf 5 = .ok (.ifCond .le 8, 3) := by decide +kernel
theorem dX4_stateOf_8 : decode cX4_stateOf 8 = .ok (.bipush 32, 2) := by decide +kernel
theorem dX4_stateOf_10 : decode cX4_stateOf 10 = .ok (.goto 9, 3) := by decide +kernel
theorem dX4_stateOf_13 : decode cX4_stateOf 13 = .ok (.aload_n 0, 1) := by decide +kernel
theorem dX4_stateOf_14 : decode cX4_stateOf 14 = .ok (.getfield 50, 3) := by decide +kernel
theorem dX4_stateOf_17 : decode cX4_stateOf 17 = .ok (.iload_n 1, 1) := by decide +kernel
theorem dX4_stateOf_18 : decode cX4_stateOf 18 = .ok (.caload, 1) := by decide +kernel
theorem dX4_stateOf_19 : decode cX4_stateOf 19 = .ok (.ireturn, 1) := by decide +kernel
theorem dX4_waiting_0 : decode cX4_waiting 0 = .ok (.aload_n 0, 1) := by decide +kernel
theorem dX4_waiting_1 : decode cX4_waiting 1 = .ok (.iconst 0, 1) := by decide +kernel
theorem dX4_waiting_2 : decode cX4_waiting 2 = .ok (.putfield 72, 3) := by decide +kernel
theorem dX4_waiting_5 : decode cX4_waiting 5 = .ok (.iconst 0, 1) := by decide +kernel
theorem dX4_waiting_6 : decode cX4_waiting 6 = .ok (.istore_n 1, 1) := by decide +kernel
theorem dX4_waiting_7 : decode cX4_waiting 7 = .ok (.iconst 0, 1) := by decide +kernel
theorem dX4_waiting_8 : decode cX4_waiting 8 = .ok (.istore_n 2, 1) := by decide +kernel
theorem dX4_waiting_9 : decode cX4_waiting 9 = .ok (.iload_n 2, 1) := by decide +kernel
theorem dX4_waiting_10 : decode cX4_waiting 10 = .ok (.aload_n 0, 1) := by decide +kernel
theorem dX4_waiting_11 : decode cX4_waiting 11 = .ok (.getfield 86, 3) := by decide +kernel
theorem dX4_waiting_14 : decode cX4_waiting 14 = .ok (.if_icmp .ge 28, 3) := by decide +kernel
theorem dX4_waiting_17 : decode cX4_waiting 17 = .ok (.iload_n 1, 1) := by decide +kernel
theorem dX4_waiting_18 : decode cX4_waiting 18 = .ok (.aload_n 0, 1) := by decide +kernel
theorem dX4_waiting_19 : decode cX4_waiting 19 = .ok (.getfield 50, 3) := by decide +kernel
theorem dX4_waiting_22 : decode cX4_waiting 22 = .ok (.iload_n 2, 1) := by decide +kernel
theorem dX4_waiting_23 : decode cX4_waiting 23 = .ok (.caload, 1) := by decide +kernel
theorem dX4_waiting_24 : decode cX4_waiting 24 = .ok (.bipush 115, 2) := by decide +kernel
theorem dX4_waiting_26 : decode cX4_waiting 26 = .ok (.if_icmp .ne 7, 3) := by decide +kernel
theorem dX4_waiting_29 : decode cX4_waiting 29 = .ok (.iconst 1, 1) := by decide +kernel
theorem dX4_waiting_30 : decode cX4_waiting 30 = .ok (.goto 4, 3) := by decide +kernel
theorem dX4_waiting_33 : decode cX4_waiting 33 = .ok (.iconst 0, 1) := by decide +kernel
theorem dX4_waiting_34 : decode cX4_waiting 34 = .ok (.iadd, 1) := by decide +kernel
theorem dX4_waiting_35 : decode cX4_waiting 35 = .ok (.istore_n 1, 1) := by decide +kernel
theorem dX4_waiting_36 : decode cX4_waiting 36 = .ok (.iinc 2 1, 3) := by decide +kernel
theorem dX4_waiting_39 : decode cX4_waiting 39 = .ok (.goto (-30), 3) := by decide +kernel
theorem dX4_waiting_42 : decode cX4_waiting 42 = .ok (.iload_n 1, 1) := by decide +kernel
theorem dX4_waiting_43 : decode cX4_waiting 43 = .ok (.ireturn, 1) := by decide +kernel
theorem dX4_setJam_0 : decode cX4_setJam 0 = .ok (.aload_n 0, 1) := by decide +kernel
theorem dX4_setJam_1 : decode cX4_setJam 1 = .ok (.iconst 0, 1) := by decide +kernel
theorem dX4_setJam_2 : decode cX4_setJam 2 = .ok (.putfield 72, 3) := by decide +kernel
theorem dX4_setJam_5 : decode cX4_setJam 5 = .ok (.aload_n 0, 1) := by decide +kernel
theorem dX4_setJam_6 : decode cX4_setJam 6 = .ok (.getfield 182, 3) := by decide +kernel
theorem dX4_setJam_9 : decode cX4_setJam 9 = .ok (.istore_n 2, 1) := by decide +kernel
theorem dX4_setJam_10 : decode cX4_setJam 10 = .ok (.aload_n 0, 1) := by decide +kernel
theorem dX4_setJam_11 : decode cX4_setJam 11 = .ok (.iload_n 1, 1) := by decide +kernel
theorem dX4_setJam_12 : decode cX4_setJam 12 = .ok (.putfield 182, 3) := by decide +kernel
theorem dX4_setJam_15 : decode cX4_setJam 15 = .ok (.iload_n 2, 1) := by decide +kernel
theorem dX4_setJam_16 : decode cX4_setJam 16 = .ok (.ireturn, 1) := by decide +kernel
theorem dX4_print_0 : decode cX4_print 0 = .ok (.iconst 0, 1) := by decide +kernel
theorem dX4_print_1 : decode cX4_print 1 = .ok (.istore_n 1, 1) := by decide +kernel
theorem dX4_print_2 : decode cX4_print 2 = .ok (.iload_n 1, 1) := by decide +kernel
theorem dX4_print_3 : decode cX4_print 3 = .ok (.aload_n 0, 1) := by decide +kernel
theorem dX4_print_4 : decode cX4_print 4 = .ok (.getfield 86, 3) := by decide +kernel
theorem dX4_print_7 : decode cX4_print 7 = .ok (.if_icmp .ge 20, 3) := by decide +kernel
theorem dX4_print_10 : decode cX4_print 10 = .ok (.aload_n 0, 1) := by decide +kernel
theorem dX4_print_11 : decode cX4_print 11 = .ok (.getfield 50, 3) := by decide +kernel
theorem dX4_print_14 : decode cX4_print 14 = .ok (.iload_n 1, 1) := by decide +kernel
theorem dX4_print_15 : decode cX4_print 15 = .ok (.caload, 1) := by decide +kernel
theorem dX4_print_16 : decode cX4_print 16 = .ok (.bipush 115, 2) := by decide +kernel
theorem dX4_print_18 : decode cX4_print 18 = .ok (.if_icmp .eq 9, 3) := by decide +kernel
theorem dX4_print_21 : decode cX4_print 21 = .ok (.iinc 1 1, 3) := by decide +kernel
theorem dX4_print_24 : decode cX4_print 24 = .ok (.goto (-22), 3) := by decide +kernel
theorem dX4_print_27 : decode cX4_print 27 = .ok (.aload_n 0, 1) := by decide +kernel
theorem dX4_print_28 : decode cX4_print 28 = .ok (.aload_n 0, 1) := by decide +kernel
theorem dX4_print_29 : decode cX4_print 29 = .ok (.getfield 182, 3) := by decide +kernel
theorem dX4_print_32 : decode cX4_print 32 = .ok (.ifCond .eq 7, 3) := by decide +kernel
theorem dX4_print_35 : decode cX4_print 35 = .ok (.iconst 1, 1) := by decide +kernel
theorem dX4_print_36 : decode cX4_print 36 = .ok (.goto 16, 3) := by decide +kernel
theorem dX4_print_39 : decode cX4_print 39 = .ok (.iload_n 1, 1) := by decide +kernel
theorem dX4_print_40 : decode cX4_print 40 = .ok (.aload_n 0, 1) := by decide +kernel
theorem dX4_print_41 : decode cX4_print 41 = .ok (.getfield 86, 3) := by decide +kernel
theorem dX4_print_44 : decode cX4_print 44 = .ok (.if_icmp .ne 7, 3) := by decide +kernel
theorem dX4_print_47 : decode cX4_print 47 = .ok (.iconst 2, 1) := by decide +kernel
theorem dX4_print_48 : decode cX4_print 48 = .ok (.goto 4, 3) := by decide +kernel
theorem dX4_print_51 : decode cX4_print 51 = .ok (.iconst 0, 1) := by decide +kernel
theorem dX4_print_52 : decode cX4_print 52 = .ok (.putfield 72, 3) := by decide +kernel
theorem dX4_print_55 : decode cX4_print 55 = .ok (.aload_n 0, 1) := by decide +kernel
theorem dX4_print_56 : decode cX4_print 56 = .ok (.getfield 72, 3) := by decide +kernel
theorem dX4_print_59 : decode cX4_print 59 = .ok (.ifCond .le 5, 3) := by decide +kernel
theorem dX4_print_62 : decode cX4_print 62 = .ok (.iconst 0, 1) := by decide +kernel
theorem dX4_print_63 : decode cX4_print 63 = .ok (.ireturn, 1) := by decide +kernel
theorem dX4_print_64 : decode cX4_print 64 = .ok (.aload_n 0, 1) := by decide +kernel
theorem dX4_print_65 : decode cX4_print 65 = .ok (.getfield 50, 3) := by decide +kernel
theorem dX4_print_68 : decode cX4_print 68 = .ok (.iload_n 1, 1) := by decide +kernel
theorem dX4_print_69 : decode cX4_print 69 = .ok (.bipush 112, 2) := by decide +kernel
theorem dX4_print_71 : decode cX4_print 71 = .ok (.castore, 1) := by decide +kernel
theorem dX4_print_72 : decode cX4_print 72 = .ok (.iconst 0, 1) := by decide +kernel
theorem dX4_print_73 : decode cX4_print 73 = .ok (.istore_n 2, 1) := by decide +kernel
theorem dX4_print_74 : decode cX4_print 74 = .ok (.iload_n 2, 1) := by decide +kernel
theorem dX4_print_75 : decode cX4_print 75 = .ok (.aload_n 0, 1) := by decide +kernel
theorem dX4_print_76 : decode cX4_print 76 = .ok (.getfield 63, 3) := by decide +kernel
theorem dX4_print_79 : decode cX4_print 79 = .ok (.iload_n 1, 1) := by decide +kernel
theorem dX4_print_80 : decode cX4_print 80 = .ok (.iaload, 1) := by decide +kernel
theorem dX4_print_81 : decode cX4_print 81 = .ok (.if_icmp .ge 29, 3) := by decide +kernel
theorem dX4_print_84 : decode cX4_print 84 = .ok (.aload_n 0, 1) := by decide +kernel
theorem dX4_print_85 : decode cX4_print 85 = .ok (.getfield 25, 3) := by decide +kernel
theorem dX4_print_88 : decode cX4_print 88 = .ok (.aload_n 0, 1) := by decide +kernel
theorem dX4_print_89 : decode cX4_print 89 = .ok (.getfield 60, 3) := by decide +kernel
theorem dX4_print_92 : decode cX4_print 92 = .ok (.bipush 27, 2) := by decide +kernel
theorem dX4_print_94 : decode cX4_print 94 = .ok (.iload_n 1, 1) := by decide +kernel
theorem dX4_print_95 : decode cX4_print 95 = .ok (.imul, 1) := by decide +kernel
theorem dX4_print_96 : decode cX4_print 96 = .ok (.iload_n 2, 1) := by decide +kernel
theorem dX4_print_97 : decode cX4_print 97 = .ok (.iadd, 1) := by decide +kernel
theorem dX4_print_98 : decode cX4_print 98 = .ok (.iaload, 1) := by decide +kernel
theorem dX4_print_99 : decode cX4_print 99 = .ok (.aload_n 0, 1) := by decide +kernel
theorem dX4_print_100 : decode cX4_print 100 = .ok (.getfield 123, 3) := by decide +kernel
theorem dX4_print_103 : decode cX4_print 103 = .ok (.iastore, 1) := by decide +kernel
theorem dX4_print_104 : decode cX4_print 104 = .ok (.iinc 2 1, 3) := by decide +kernel
theorem dX4_print_107 : decode cX4_print 107 = .ok (.goto (-33), 3) := by decide +kernel
theorem dX4_print_110 : decode cX4_print 110 = .ok (.aload_n 0, 1) := by decide +kernel
theorem dX4_print_111 : decode cX4_print 111 = .ok (.invokevirtual 92, 3) := by decide +kernel
theorem dX4_print_114 : decode cX4_print 114 = .ok (.iload_n 1, 1) := by decide +kernel
theorem dX4_print_115 : decode cX4_print 115 = .ok (.ireturn, 1) := by decide +kernel
theorem dX4_cancel_0 : decode cX4_cancel 0 = .ok (.aload_n 0, 1) := by decide +kernel
theorem dX4_cancel_1 : decode cX4_cancel 1 = .ok (.iload_n 1, 1) := by decide +kernel
theorem dX4_cancel_2 : decode cX4_cancel 2 = .ok (.invokevirtual 179, 3) := by decide +kernel
theorem dX4_cancel_5 : decode cX4_cancel 5 = .ok (.ifCond .ne 19, 3) := by decide +kernel
theorem dX4_cancel_8 : decode cX4_cancel 8 = .ok (.aload_n 0, 1) := by decide +kernel
theorem dX4_cancel_9 : decode cX4_cancel 9 = .ok (.getfield 50, 3) := by decide +kernel
theorem dX4_cancel_12 : decode cX4_cancel 12 = .ok (.iload_n 1, 1) := by decide +kernel
theorem dX4_cancel_13 : decode cX4_cancel 13 = .ok (.caload, 1) := by decide +kernel
theorem dX4_cancel_14 : decode cX4_cancel 14 = .ok (.bipush 115, 2) := by decide +kernel
theorem dX4_cancel_16 : decode cX4_cancel 16 = .ok (.if_icmp .eq 8, 3) := by decide +kernel
theorem dX4_cancel_19 : decode cX4_cancel 19 = .ok (.aload_n 0, 1) := by decide +kernel
theorem dX4_cancel_20 : decode cX4_cancel 20 = .ok (.iconst 2, 1) := by decide +kernel
theorem dX4_cancel_21 : decode cX4_cancel 21 = .ok (.putfield 72, 3) := by decide +kernel
theorem dX4_cancel_24 : decode cX4_cancel 24 = .ok (.aload_n 0, 1) := by decide +kernel
theorem dX4_cancel_25 : decode cX4_cancel 25 = .ok (.getfield 72, 3) := by decide +kernel
theorem dX4_cancel_28 : decode cX4_cancel 28 = .ok (.ifCond .le 5, 3) := by decide +kernel
theorem dX4_cancel_31 : decode cX4_cancel 31 = .ok (.iconst 0, 1) := by decide +kernel
theorem dX4_cancel_32 : decode cX4_cancel 32 = .ok (.ireturn, 1) := by decide +kernel
theorem dX4_cancel_33 : decode cX4_cancel 33 = .ok (.aload_n 0, 1) := by decide +kernel
theorem dX4_cancel_34 : decode cX4_cancel 34 = .ok (.getfield 50, 3) := by decide +kernel
theorem dX4_cancel_37 : decode cX4_cancel 37 = .ok (.iload_n 1, 1) := by decide +kernel
theorem dX4_cancel_38 : decode cX4_cancel 38 = .ok (.bipush 99, 2) := by decide +kernel
theorem dX4_cancel_40 : decode cX4_cancel 40 = .ok (.castore, 1) := by decide +kernel
theorem dX4_cancel_41 : decode cX4_cancel 41 = .ok (.aload_n 0, 1) := by decide +kernel
theorem dX4_cancel_42 : decode cX4_cancel 42 = .ok (.invokevirtual 92, 3) := by decide +kernel
theorem dX4_cancel_45 : decode cX4_cancel 45 = .ok (.aload_n 0, 1) := by decide +kernel
theorem dX4_cancel_46 : decode cX4_cancel 46 = .ok (.getfield 63, 3) := by decide +kernel
theorem dX4_cancel_49 : decode cX4_cancel 49 = .ok (.iload_n 1, 1) := by decide +kernel
theorem dX4_cancel_50 : decode cX4_cancel 50 = .ok (.iaload, 1) := by decide +kernel
theorem dX4_cancel_51 : decode cX4_cancel 51 = .ok (.ireturn, 1) := by decide +kernel
theorem dX4_answer_0 : decode cX4_answer 0 = .ok (.aload_n 0, 1) := by decide +kernel
theorem dX4_answer_1 : decode cX4_answer 1 = .ok (.iload_n 1, 1) := by decide +kernel
theorem dX4_answer_2 : decode cX4_answer 2 = .ok (.invokevirtual 179, 3) := by decide +kernel
theorem dX4_answer_5 : decode cX4_answer 5 = .ok (.ifCond .ne 57, 3) := by decide +kernel
theorem dX4_answer_8 : decode cX4_answer 8 = .ok (.aload_n 0, 1) := by decide +kernel
theorem dX4_answer_9 : decode cX4_answer 9 = .ok (.aload_n 0, 1) := by decide +kernel
theorem dX4_answer_10 : decode cX4_answer 10 = .ok (.getfield 50, 3) := by decide +kernel
theorem dX4_answer_13 : decode cX4_answer 13 = .ok (.iload_n 1, 1) := by decide +kernel
theorem dX4_answer_14 : decode cX4_answer 14 = .ok (.caload, 1) := by decide +kernel
theorem dX4_answer_15 : decode cX4_answer 15 = .ok (.bipush 112, 2) := by decide +kernel
theorem dX4_answer_17 : decode cX4_answer 17 = .ok (.if_icmp .eq 7, 3) := by decide +kernel
theorem dX4_answer_20 : decode cX4_answer 20 = .ok (.iconst 2, 1) := by decide +kernel
theorem dX4_answer_21 : decode cX4_answer 21 = .ok (.goto 38, 3) := by decide +kernel
theorem dX4_answer_24 : decode cX4_answer 24 = .ok (.iload_n 2, 1) := by decide +kernel
theorem dX4_answer_25 : decode cX4_answer 25 = .ok (.iconst 0, 1) := by decide +kernel
theorem dX4_answer_26 : decode cX4_answer 26 = .ok (.aload_n 0, 1) := by decide +kernel
theorem dX4_answer_27 : decode cX4_answer 27 = .ok (.getfield 63, 3) := by decide +kernel
theorem dX4_answer_30 : decode cX4_answer 30 = .ok (.iload_n 1, 1) := by decide +kernel
theorem dX4_answer_31 : decode cX4_answer 31 = .ok (.iaload, 1) := by decide +kernel
theorem dX4_answer_32 : decode cX4_answer 32 = .ok (.iconst 1, 1) := by decide +kernel
theorem dX4_answer_33 : decode cX4_answer 33 = .ok (.isub, 1) := by decide +kernel
theorem dX4_answer_34 : decode cX4_answer 34 = .ok (.invokestatic 79, 3) := by decide +kernel
theorem dX4_answer_37 : decode cX4_answer 37 = .ok (.ifCond .eq 17, 3) := by decide +kernel
theorem dX4_answer_40 : decode cX4_answer 40 = .ok (.aload_n 0, 1) := by decide +kernel
theorem dX4_answer_41 : decode cX4_answer 41 = .ok (.getfield 57, 3) := by decide +kernel
theorem dX4_answer_44 : decode cX4_answer 44 = .ok (.bipush 27, 2) := by decide +kernel
theorem dX4_answer_46 : decode cX4_answer 46 = .ok (.iload_n 1, 1) := by decide +kernel
theorem dX4_answer_47 : decode cX4_answer 47 = .ok (.imul, 1) := by decide +kernel
theorem dX4_answer_48 : decode cX4_answer 48 = .ok (.iload_n 2, 1) := by decide +kernel
theorem dX4_answer_49 : decode cX4_answer 49 = .ok (.iadd, 1) := by decide +kernel
theorem dX4_answer_50 : decode cX4_answer 50 = .ok (.baload, 1) := by decide +kernel
theorem dX4_answer_51 : decode cX4_answer 51 = .ok (.ifCond .eq 7, 3) := by decide +kernel
theorem dX4_answer_54 : decode cX4_answer 54 = .ok (.iconst 3, 1) := by decide +kernel
theorem dX4_answer_55 : decode cX4_answer 55 = .ok (.goto 4, 3) := by decide +kernel
theorem dX4_answer_58 : decode cX4_answer 58 = .ok (.iconst 0, 1) := by decide +kernel
theorem dX4_answer_59 : decode cX4_answer 59 = .ok (.putfield 72, 3) := by decide +kernel
theorem dX4_answer_62 : decode cX4_answer 62 = .ok (.aload_n 0, 1) := by decide +kernel
theorem dX4_answer_63 : decode cX4_answer 63 = .ok (.getfield 72, 3) := by decide +kernel
theorem dX4_answer_66 : decode cX4_answer 66 = .ok (.ifCond .le 5, 3) := by decide +kernel
theorem dX4_answer_69 : decode cX4_answer 69 = .ok (.iconst 0, 1) := by decide +kernel
theorem dX4_answer_70 : decode cX4_answer 70 = .ok (.ireturn, 1) := by decide +kernel
theorem dX4_answer_71 : decode cX4_answer 71 = .ok (.aload_n 0, 1) := by decide +kernel
theorem dX4_answer_72 : decode cX4_answer 72 = .ok (.getfield 57, 3) := by decide +kernel
theorem dX4_answer_75 : decode cX4_answer 75 = .ok (.bipush 27, 2) := by decide +kernel
theorem dX4_answer_77 : decode cX4_answer 77 = .ok (.iload_n 1, 1) := by decide +kernel
theorem dX4_answer_78 : decode cX4_answer 78 = .ok (.imul, 1) := by decide +kernel
theorem dX4_answer_79 : decode cX4_answer 79 = .ok (.iload_n 2, 1) := by decide +kernel
theorem dX4_answer_80 : decode cX4_answer 80 = .ok (.iadd, 1) := by decide +kernel
theorem dX4_answer_81 : decode cX4_answer 81 = .ok (.iconst 1, 1) := by decide +kernel
theorem dX4_answer_82 : decode cX4_answer 82 = .ok (.bastore, 1) := by decide +kernel
theorem dX4_answer_83 : decode cX4_answer 83 = .ok (.aload_n 0, 1) := by decide +kernel
theorem dX4_answer_84 : decode cX4_answer 84 = .ok (.getfield 60, 3) := by decide +kernel
theorem dX4_answer_87 : decode cX4_answer 87 = .ok (.bipush 27, 2) := by decide +kernel
theorem dX4_answer_89 : decode cX4_answer 89 = .ok (.iload_n 1, 1) := by decide +kernel
theorem dX4_answer_90 : decode cX4_answer 90 = .ok (.imul, 1) := by decide +kernel
theorem dX4_answer_91 : decode cX4_answer 91 = .ok (.iload_n 2, 1) := by decide +kernel
theorem dX4_answer_92 : decode cX4_answer 92 = .ok (.iadd, 1) := by decide +kernel
theorem dX4_answer_93 : decode cX4_answer 93 = .ok (.iaload, 1) := by decide +kernel
theorem dX4_answer_94 : decode cX4_answer 94 = .ok (.istore 4, 2) := by decide +kernel
theorem dX4_answer_96 : decode cX4_answer 96 = .ok (.aload_n 0, 1) := by decide +kernel
theorem dX4_answer_97 : decode cX4_answer 97 = .ok (.getfield 19, 3) := by decide +kernel
theorem dX4_answer_100 : decode cX4_answer 100 = .ok (.iload 4, 2) := by decide +kernel
theorem dX4_answer_102 : decode cX4_answer 102 = .ok (.iaload, 1) := by decide +kernel
theorem dX4_answer_103 : decode cX4_answer 103 = .ok (.istore 5, 2) := by decide +kernel
theorem dX4_answer_105 : decode cX4_answer 105 = .ok (.iload_n 3, 1) := by decide +kernel
theorem dX4_answer_106 : decode cX4_answer 106 = .ok (.ifCond .eq 16, 3) := by decide +kernel
theorem dX4_answer_109 : decode cX4_answer 109 = .ok (.iload 5, 2) := by decide +kernel
theorem dX4_answer_111 : decode cX4_answer 111 = .ok (.iconst 1, 1) := by decide +kernel
theorem dX4_answer_112 : decode cX4_answer 112 = .ok (.isub, 1) := by decide +kernel
theorem dX4_answer_113 : decode cX4_answer 113 = .ok (.iload 5, 2) := by decide +kernel
theorem dX4_answer_115 : decode cX4_answer 115 = .ok (.bipush 10, 2) := by decide +kernel
theorem dX4_answer_117 : decode cX4_answer 117 = .ok (.idiv, 1) := by decide +kernel
theorem dX4_answer_118 : decode cX4_answer 118 = .ok (.isub, 1) := by decide +kernel
theorem dX4_answer_119 : decode cX4_answer 119 = .ok (.goto 16, 3) := by decide +kernel
theorem dX4_answer_122 : decode cX4_answer 122 = .ok (.iload 5, 2) := by decide +kernel
theorem dX4_answer_124 : decode cX4_answer 124 = .ok (.iconst 1, 1) := by decide +kernel
theorem dX4_answer_125 : decode cX4_answer 125 = .ok (.iadd, 1) := by decide +kernel
theorem dX4_answer_126 : decode cX4_answer 126 = .ok (.bipush 100, 2) := by decide +kernel
theorem dX4_answer_128 : decode cX4_answer 128 = .ok (.iload 5, 2) := by decide +kernel
theorem dX4_answer_130 : decode cX4_answer 130 = .ok (.isub, 1) := by decide +kernel
theorem dX4_answer_131 : decode cX4_answer 131 = .ok (.bipush 10, 2) := by decide +kernel
theorem dX4_answer_133 : decode cX4_answer 133 = .ok (.idiv, 1) := by decide +kernel
theorem dX4_answer_134 : decode cX4_answer 134 = .ok (.iadd, 1) := by decide +kernel
theorem dX4_answer_135 : decode cX4_answer 135 = .ok (.istore 5, 2) := by decide +kernel
theorem dX4_answer_137 : decode cX4_answer 137 = .ok (.aload_n 0, 1) := by decide +kernel
theorem dX4_answer_138 : decode cX4_answer 138 = .ok (.getfield 19, 3) := by decide +kernel
theorem dX4_answer_141 : decode cX4_answer 141 = .ok (.iload 4, 2) := by decide +kernel
theorem dX4_answer_143 : decode cX4_answer 143 = .ok (.iload 5, 2) := by decide +kernel
theorem dX4_answer_145 : decode cX4_answer 145 = .ok (.ifCond .ge 7, 3) := by decide +kernel
theorem dX4_answer_148 : decode cX4_answer 148 = .ok (.iconst 0, 1) := by decide +kernel
theorem dX4_answer_149 : decode cX4_answer 149 = .ok (.goto 17, 3) := by decide +kernel
theorem dX4_answer_152 : decode cX4_answer 152 = .ok (.iload 5, 2) := by decide +kernel
theorem dX4_answer_154 : decode cX4_answer 154 = .ok (.bipush 100, 2) := by decide +kernel
theorem dX4_answer_156 : decode cX4_answer 156 = .ok (.if_icmp .le 8, 3) := by decide +kernel
theorem dX4_answer_159 : decode cX4_answer 159 = .ok (.bipush 100, 2) := by decide +kernel
theorem dX4_answer_161 : decode cX4_answer 161 = .ok (.goto 5, 3) := by decide +kernel
theorem dX4_answer_164 : decode cX4_answer 164 = .ok (.iload 5, 2) := by decide +kernel
theorem dX4_answer_166 : decode cX4_answer 166 = .ok (.iastore, 1) := by decide +kernel
theorem dX4_answer_167 : decode cX4_answer 167 = .ok (.aload_n 0, 1) := by decide +kernel
theorem dX4_answer_168 : decode cX4_answer 168 = .ok (.dup, 1) := by decide +kernel
theorem dX4_answer_169 : decode cX4_answer 169 = .ok (.getfield 186, 3) := by decide +kernel
theorem dX4_answer_172 : decode cX4_answer 172 = .ok (.iconst 1, 1) := by decide +kernel
theorem dX4_answer_173 : decode cX4_answer 173 = .ok (.iadd, 1) := by decide +kernel
theorem dX4_answer_174 : decode cX4_answer 174 = .ok (.putfield 186, 3) := by decide +kernel
theorem dX4_answer_177 : decode cX4_answer 177 = .ok (.aload_n 0, 1) := by decide +kernel
theorem dX4_answer_178 : decode cX4_answer 178 = .ok (.dup, 1) := by decide +kernel
theorem dX4_answer_179 : decode cX4_answer 179 = .ok (.getfield 189, 3) := by decide +kernel
theorem dX4_answer_182 : decode cX4_answer 182 = .ok (.iload_n 3, 1) := by decide +kernel
theorem dX4_answer_183 : decode cX4_answer 183 = .ok (.ifCond .eq 7, 3) := by decide +kernel
theorem dX4_answer_186 : decode cX4_answer 186 = .ok (.iconst 1, 1) := by decide +kernel
theorem dX4_answer_187 : decode cX4_answer 187 = .ok (.goto 4, 3) := by decide +kernel
theorem dX4_answer_190 : decode cX4_answer 190 = .ok (.iconst 0, 1) := by decide +kernel
theorem dX4_answer_191 : decode cX4_answer 191 = .ok (.iadd, 1) := by decide +kernel
theorem dX4_answer_192 : decode cX4_answer 192 = .ok (.putfield 189, 3) := by decide +kernel
theorem dX4_answer_195 : decode cX4_answer 195 = .ok (.aload_n 0, 1) := by decide +kernel
theorem dX4_answer_196 : decode cX4_answer 196 = .ok (.invokevirtual 92, 3) := by decide +kernel
theorem dX4_answer_199 : decode cX4_answer 199 = .ok (.aload_n 0, 1) := by decide +kernel
theorem dX4_answer_200 : decode cX4_answer 200 = .ok (.getfield 19, 3) := by decide +kernel
theorem dX4_answer_203 : decode cX4_answer 203 = .ok (.iload 4, 2) := by decide +kernel
theorem dX4_answer_205 : decode cX4_answer 205 = .ok (.iaload, 1) := by decide +kernel
theorem dX4_answer_206 : decode cX4_answer 206 = .ok (.ireturn, 1) := by decide +kernel
theorem dX4_put_0 : decode cX4_put 0 = .ok (.aload_n 0, 1) := by decide +kernel
theorem dX4_put_1 : decode cX4_put 1 = .ok (.getfield 66, 3) := by decide +kernel
theorem dX4_put_4 : decode cX4_put 4 = .ok (.aload_n 0, 1) := by decide +kernel
theorem dX4_put_5 : decode cX4_put 5 = .ok (.getfield 192, 3) := by decide +kernel
theorem dX4_put_8 : decode cX4_put 8 = .ok (.iload_n 1, 1) := by decide +kernel
theorem dX4_put_9 : decode cX4_put 9 = .ok (.castore, 1) := by decide +kernel
theorem dX4_put_10 : decode cX4_put 10 = .ok (.aload_n 0, 1) := by decide +kernel
theorem dX4_put_11 : decode cX4_put 11 = .ok (.dup, 1) := by decide +kernel
theorem dX4_put_12 : decode cX4_put 12 = .ok (.getfield 192, 3) := by decide +kernel
theorem dX4_put_15 : decode cX4_put 15 = .ok (.iconst 1, 1) := by decide +kernel
theorem dX4_put_16 : decode cX4_put 16 = .ok (.iadd, 1) := by decide +kernel
theorem dX4_put_17 : decode cX4_put 17 = .ok (.putfield 192, 3) := by decide +kernel
theorem dX4_put_20 : decode cX4_put 20 = .ok (.return_, 1) := by decide +kernel
theorem dX4_putNumber_0 : decode cX4_putNumber 0 = .ok (.iload_n 1, 1) := by decide +kernel
theorem dX4_putNumber_1 : decode cX4_putNumber 1 = .ok (.bipush 10, 2) := by decide +kernel
theorem dX4_putNumber_3 : decode cX4_putNumber 3 = .ok (.if_icmp .lt 15, 3) := by decide +kernel
theorem dX4_putNumber_6 : decode cX4_putNumber 6 = .ok (.aload_n 0, 1) := by decide +kernel
theorem dX4_putNumber_7 : decode cX4_putNumber 7 = .ok (.bipush 48, 2) := by decide +kernel
theorem dX4_putNumber_9 : decode cX4_putNumber 9 = .ok (.iload_n 1, 1) := by decide +kernel
theorem dX4_putNumber_10 : decode cX4_putNumber 10 = .ok (.bipush 10, 2) := by decide +kernel
theorem dX4_putNumber_12 : decode cX4_putNumber 12 = .ok (.idiv, 1) := by decide +kernel
theorem dX4_putNumber_13 : decode cX4_putNumber 13 = .ok (.iadd, 1) := by decide +kernel
theorem dX4_putNumber_14 : decode cX4_putNumber 14 = .ok (.i2c, 1) := by decide +kernel
theorem dX4_putNumber_15 : decode cX4_putNumber 15 = .ok (.invokevirtual 195, 3) := by decide +kernel
theorem dX4_putNumber_18 : decode cX4_putNumber 18 = .ok (.aload_n 0, 1) := by decide +kernel
theorem dX4_putNumber_19 : decode cX4_putNumber 19 = .ok (.bipush 48, 2) := by decide +kernel
theorem dX4_putNumber_21 : decode cX4_putNumber 21 = .ok (.iload_n 1, 1) := by decide +kernel
theorem dX4_putNumber_22 : decode cX4_putNumber 22 = .ok (.bipush 10, 2) := by decide +kernel
theorem dX4_putNumber_24 : decode cX4_putNumber 24 = .ok (.irem, 1) := by decide +kernel
theorem dX4_putNumber_25 : decode cX4_putNumber 25 = .ok (.iadd, 1) := by decide +kernel
theorem dX4_putNumber_26 : decode cX4_putNumber 26 = .ok (.i2c, 1) := by decide +kernel
theorem dX4_putNumber_27 : decode cX4_putNumber 27 = .ok (.invokevirtual 195, 3) := by decide +kernel
theorem dX4_putNumber_30 : decode cX4_putNumber 30 = .ok (.return_, 1) := by decide +kernel
theorem dX4_textOf_0 : decode cX4_textOf 0 = .ok (.aload_n 0, 1) := by decide +kernel
theorem dX4_textOf_1 : decode cX4_textOf 1 = .ok (.iload_n 1, 1) := by decide +kernel
theorem dX4_textOf_2 : decode cX4_textOf 2 = .ok (.invokevirtual 179, 3) := by decide +kernel
theorem dX4_textOf_5 : decode cX4_textOf 5 = .ok (.ifCond .le 6, 3) := by decide +kernel
theorem dX4_textOf_8 : decode cX4_textOf 8 = .ok (.bipush 32, 2) := by decide +kernel
theorem dX4_textOf_10 : decode cX4_textOf 10 = .ok (.ireturn, 1) := by decide +kernel
theorem dX4_textOf_11 : decode cX4_textOf 11 = .ok (.aload_n 0, 1) := by decide +kernel
theorem dX4_textOf_12 : decode cX4_textOf 12 = .ok (.iconst 0, 1) := by decide +kernel
theorem dX4_textOf_13 : decode cX4_textOf 13 = .ok (.putfield 192, 3) := by decide +kernel
theorem dX4_textOf_16 : decode cX4_textOf 16 = .ok (.aload_n 0, 1) := by decide +kernel
theorem dX4_textOf_17 : decode cX4_textOf 17 = .ok (.iload_n 1, 1) := by decide +kernel
theorem dX4_textOf_18 : decode cX4_textOf 18 = .ok (.invokevirtual 199, 3) := by decide +kernel
theorem dX4_textOf_21 : decode cX4_textOf 21 = .ok (.aload_n 0, 1) := by decide +kernel
theorem dX4_textOf_22 : decode cX4_textOf 22 = .ok (.bipush 58, 2) := by decide +kernel
theorem dX4_textOf_24 : decode cX4_textOf 24 = .ok (.invokevirtual 195, 3) := by decide +kernel
theorem dX4_textOf_27 : decode cX4_textOf 27 = .ok (.iconst 0, 1) := by decide +kernel
theorem dX4_textOf_28 : decode cX4_textOf 28 = .ok (.istore_n 3, 1) := by decide +kernel
theorem dX4_textOf_29 : decode cX4_textOf 29 = .ok (.iload_n 3, 1) := by decide +kernel
theorem dX4_textOf_30 : decode cX4_textOf 30 = .ok (.aload_n 0, 1) := by decide +kernel
theorem dX4_textOf_31 : decode cX4_textOf 31 = .ok (.getfield 63, 3) := by decide +kernel
theorem dX4_textOf_34 : decode cX4_textOf 34 = .ok (.iload_n 1, 1) := by decide +kernel
theorem dX4_textOf_35 : decode cX4_textOf 35 = .ok (.iaload, 1) := by decide +kernel
theorem dX4_textOf_36 : decode cX4_textOf 36 = .ok (.if_icmp .ge 34, 3) := by decide +kernel
theorem dX4_textOf_39 : decode cX4_textOf 39 = .ok (.iload_n 3, 1) := by decide +kernel
theorem dX4_textOf_40 : decode cX4_textOf 40 = .ok (.ifCond .le 9, 3) := by decide +kernel
theorem dX4_textOf_43 : decode cX4_textOf 43 = .ok (.aload_n 0, 1) := by decide +kernel
theorem dX4_textOf_44 : decode cX4_textOf 44 = .ok (.bipush 44, 2) := by decide +kernel
theorem dX4_textOf_46 : decode cX4_textOf 46 = .ok (.invokevirtual 195, 3) := by decide +kernel
theorem dX4_textOf_49 : decode cX4_textOf 49 = .ok (.aload_n 0, 1) := by decide +kernel
theorem dX4_textOf_50 : decode cX4_textOf 50 = .ok (.aload_n 0, 1) := by decide +kernel
theorem dX4_textOf_51 : decode cX4_textOf 51 = .ok (.getfield 60, 3) := by decide +kernel
theorem dX4_textOf_54 : decode cX4_textOf 54 = .ok (.bipush 27, 2) := by decide +kernel
theorem dX4_textOf_56 : decode cX4_textOf 56 = .ok (.iload_n 1, 1) := by decide +kernel
theorem dX4_textOf_57 : decode cX4_textOf 57 = .ok (.imul, 1) := by decide +kernel
theorem dX4_textOf_58 : decode cX4_textOf 58 = .ok (.iload_n 3, 1) := by decide +kernel
theorem dX4_textOf_59 : decode cX4_textOf 59 = .ok (.iadd, 1) := by decide +kernel
theorem dX4_textOf_60 : decode cX4_textOf 60 = .ok (.iaload, 1) := by decide +kernel
theorem dX4_textOf_61 : decode cX4_textOf 61 = .ok (.invokevirtual 199, 3) := by decide +kernel
theorem dX4_textOf_64 : decode cX4_textOf 64 = .ok (.iinc 3 1, 3) := by decide +kernel
theorem dX4_textOf_67 : decode cX4_textOf 67 = .ok (.goto (-38), 3) := by decide +kernel
theorem dX4_textOf_70 : decode cX4_textOf 70 = .ok (.aload_n 0, 1) := by decide +kernel
theorem dX4_textOf_71 : decode cX4_textOf 71 = .ok (.iload_n 2, 1) := by decide +kernel
theorem dX4_textOf_72 : decode cX4_textOf 72 = .ok (.iconst 0, 1) := by decide +kernel
theorem dX4_textOf_73 : decode cX4_textOf 73 = .ok (.aload_n 0, 1) := by decide +kernel
theorem dX4_textOf_74 : decode cX4_textOf 74 = .ok (.getfield 192, 3) := by decide +kernel
theorem dX4_textOf_77 : decode cX4_textOf 77 = .ok (.iconst 1, 1) := by decide +kernel
theorem dX4_textOf_78 : decode cX4_textOf 78 = .ok (.isub, 1) := by decide +kernel
theorem dX4_textOf_79 : decode cX4_textOf 79 = .ok (.invokestatic 79, 3) := by decide +kernel
theorem dX4_textOf_82 : decode cX4_textOf 82 = .ok (.ifCond .eq 7, 3) := by decide +kernel
theorem dX4_textOf_85 : decode cX4_textOf 85 = .ok (.iconst 0, 1) := by decide +kernel
theorem dX4_textOf_86 : decode cX4_textOf 86 = .ok (.goto 4, 3) := by decide +kernel
theorem dX4_textOf_89 : decode cX4_textOf 89 = .ok (.iconst 2, 1) := by decide +kernel
theorem dX4_textOf_90 : decode cX4_textOf 90 = .ok (.putfield 72, 3) := by decide +kernel
theorem dX4_textOf_93 : decode cX4_textOf 93 = .ok (.aload_n 0, 1) := by decide +kernel
theorem dX4_textOf_94 : decode cX4_textOf 94 = .ok (.getfield 72, 3) := by decide +kernel
theorem dX4_textOf_97 : decode cX4_textOf 97 = .ok (.ifCond .le 8, 3) := by decide +kernel
theorem dX4_textOf_100 : decode cX4_textOf 100 = .ok (.bipush 32, 2) := by decide +kernel
theorem dX4_textOf_102 : decode cX4_textOf 102 = .ok (.goto 9, 3) := by decide +kernel
theorem dX4_textOf_105 : decode cX4_textOf 105 = .ok (.aload_n 0, 1) := by decide +kernel
theorem dX4_textOf_106 : decode cX4_textOf 106 = .ok (.getfield 66, 3) := by decide +kernel
theorem dX4_textOf_109 : decode cX4_textOf 109 = .ok (.iload_n 2, 1) := by decide +kernel
theorem dX4_textOf_110 : decode cX4_textOf 110 = .ok (.caload, 1) := by decide +kernel
theorem dX4_textOf_111 : decode cX4_textOf 111 = .ok (.ireturn, 1) := by decide +kernel
theorem dX4_answers_0 : decode cX4_answers 0 = .ok (.aload_n 0, 1) := by decide +kernel
theorem dX4_answers_1 : decode cX4_answers 1 = .ok (.aload_n 0, 1) := by decide +kernel
theorem dX4_answers_2 : decode cX4_answers 2 = .ok (.getfield 186, 3) := by decide +kernel
theorem dX4_answers_5 : decode cX4_answers 5 = .ok (.invokevirtual 126, 3) := by decide +kernel
theorem dX4_answers_8 : decode cX4_answers 8 = .ok (.ireturn, 1) := by decide +kernel
theorem dX4_allLevels_0 : decode cX4_allLevels 0 = .ok (.aload_n 0, 1) := by decide +kernel
theorem dX4_allLevels_1 : decode cX4_allLevels 1 = .ok (.iconst 0, 1) := by decide +kernel
theorem dX4_allLevels_2 : decode cX4_allLevels 2 = .ok (.putfield 72, 3) := by decide +kernel
theorem dX4_allLevels_5 : decode cX4_allLevels 5 = .ok (.lconst 0, 1) := by decide +kernel
theorem dX4_allLevels_6 : decode cX4_allLevels 6 = .ok (.lstore_n 1, 1) := by decide +kernel
theorem dX4_allLevels_7 : decode cX4_allLevels 7 = .ok (.iconst 0, 1) := by decide +kernel
theorem dX4_allLevels_8 : decode cX4_allLevels 8 = .ok (.istore_n 3, 1) := by decide +kernel
theorem dX4_allLevels_9 : decode cX4_allLevels 9 = .ok (.iload_n 3, 1) := by decide +kernel
theorem dX4_allLevels_10 : decode cX4_allLevels 10 = .ok (.aload_n 0, 1) := by decide +kernel
theorem dX4_allLevels_11 : decode cX4_allLevels 11 = .ok (.getfield 76, 3) := by decide +kernel
theorem dX4_allLevels_14 : decode cX4_allLevels 14 = .ok (.if_icmp .ge 19, 3) := by decide +kernel
theorem dX4_allLevels_17 : decode cX4_allLevels 17 = .ok (.lload_n 1, 1) := by decide +kernel
theorem dX4_allLevels_18 : decode cX4_allLevels 18 = .ok (.aload_n 0, 1) := by decide +kernel
theorem dX4_allLevels_19 : decode cX4_allLevels 19 = .ok (.getfield 19, 3) := by decide +kernel
theorem dX4_allLevels_22 : decode cX4_allLevels 22 = .ok (.iload_n 3, 1) := by decide +kernel
theorem dX4_allLevels_23 : decode cX4_allLevels 23 = .ok (.iaload, 1) := by decide +kernel
theorem dX4_allLevels_24 : decode cX4_allLevels 24 = .ok (.i2l, 1) := by decide +kernel
theorem dX4_allLevels_25 : decode cX4_allLevels 25 = .ok (.ladd, 1) := by decide +kernel
theorem dX4_allLevels_26 : decode cX4_allLevels 26 = .ok (.lstore_n 1, 1) := by decide +kernel
theorem dX4_allLevels_27 : decode cX4_allLevels 27 = .ok (.iinc 3 1, 3) := by decide +kernel
theorem dX4_allLevels_30 : decode cX4_allLevels 30 = .ok (.goto (-21), 3) := by decide +kernel
theorem dX4_allLevels_33 : decode cX4_allLevels 33 = .ok (.lload_n 1, 1) := by decide +kernel
theorem dX4_allLevels_34 : decode cX4_allLevels 34 = .ok (.lreturn, 1) := by decide +kernel
theorem dX4_rightShare_0 : decode cX4_rightShare 0 = .ok (.aload_n 0, 1) := by decide +kernel
theorem dX4_rightShare_1 : decode cX4_rightShare 1 = .ok (.aload_n 0, 1) := by decide +kernel
theorem dX4_rightShare_2 : decode cX4_rightShare 2 = .ok (.getfield 186, 3) := by decide +kernel
theorem dX4_rightShare_5 : decode cX4_rightShare 5 = .ok (.ifCond .ne 7, 3) := by decide +kernel
theorem dX4_rightShare_8 : decode cX4_rightShare 8 = .ok (.iconst 1, 1) := by decide +kernel
theorem dX4_rightShare_9 : decode cX4_rightShare 9 = .ok (.goto 4, 3) := by decide +kernel
theorem dX4_rightShare_12 : decode cX4_rightShare 12 = .ok (.iconst 0, 1) := by decide +kernel
theorem dX4_rightShare_13 : decode cX4_rightShare 13 = .ok (.putfield 72, 3) := by decide +kernel
theorem dX4_rightShare_16 : decode cX4_rightShare 16 = .ok (.aload_n 0, 1) := by decide +kernel
theorem dX4_rightShare_17 : decode cX4_rightShare 17 = .ok (.getfield 72, 3) := by decide +kernel
theorem dX4_rightShare_20 : decode cX4_rightShare 20 = .ok (.ifCond .le 7, 3) := by decide +kernel
theorem dX4_rightShare_23 : decode cX4_rightShare 23 = .ok (.fconst 0, 1) := by decide +kernel
theorem dX4_rightShare_24 : decode cX4_rightShare 24 = .ok (.goto 14, 3) := by decide +kernel
theorem dX4_rightShare_27 : decode cX4_rightShare 27 = .ok (.aload_n 0, 1) := by decide +kernel
theorem dX4_rightShare_28 : decode cX4_rightShare 28 = .ok (.getfield 189, 3) := by decide +kernel
theorem dX4_rightShare_31 : decode cX4_rightShare 31 = .ok (.i2f, 1) := by decide +kernel
theorem dX4_rightShare_32 : decode cX4_rightShare 32 = .ok (.aload_n 0, 1) := by decide +kernel
theorem dX4_rightShare_33 : decode cX4_rightShare 33 = .ok (.getfield 186, 3) := by decide +kernel
theorem dX4_rightShare_36 : decode cX4_rightShare 36 = .ok (.i2f, 1) := by decide +kernel
theorem dX4_rightShare_37 : decode cX4_rightShare 37 = .ok (.fdiv, 1) := by decide +kernel
theorem dX4_rightShare_38 : decode cX4_rightShare 38 = .ok (.freturn, 1) := by decide +kernel
theorem dX4_meanLevel_0 : decode cX4_meanLevel 0 = .ok (.aload_n 0, 1) := by decide +kernel
theorem dX4_meanLevel_1 : decode cX4_meanLevel 1 = .ok (.aload_n 0, 1) := by decide +kernel
theorem dX4_meanLevel_2 : decode cX4_meanLevel 2 = .ok (.getfield 76, 3) := by decide +kernel
theorem dX4_meanLevel_5 : decode cX4_meanLevel 5 = .ok (.ifCond .ne 7, 3) := by decide +kernel
theorem dX4_meanLevel_8 : decode cX4_meanLevel 8 = .ok (.iconst 1, 1) := by decide +kernel
theorem dX4_meanLevel_9 : decode cX4_meanLevel 9 = .ok (.goto 4, 3) := by decide +kernel
theorem dX4_meanLevel_12 : decode cX4_meanLevel 12 = .ok (.iconst 0, 1) := by decide +kernel
theorem dX4_meanLevel_13 : decode cX4_meanLevel 13 = .ok (.putfield 72, 3) := by decide +kernel
theorem dX4_meanLevel_16 : decode cX4_meanLevel 16 = .ok (.aload_n 0, 1) := by decide +kernel
theorem dX4_meanLevel_17 : decode cX4_meanLevel 17 = .ok (.getfield 72, 3) := by decide +kernel
theorem dX4_meanLevel_20 : decode cX4_meanLevel 20 = .ok (.ifCond .le 5, 3) := by decide +kernel
theorem dX4_meanLevel_23 : decode cX4_meanLevel 23 = .ok (.dconst 0, 1) := by decide +kernel
theorem dX4_meanLevel_24 : decode cX4_meanLevel 24 = .ok (.dreturn, 1) := by decide +kernel
theorem dX4_meanLevel_25 : decode cX4_meanLevel 25 = .ok (.iconst 0, 1) := by decide +kernel
theorem dX4_meanLevel_26 : decode cX4_meanLevel 26 = .ok (.istore_n 1, 1) := by decide +kernel
theorem dX4_meanLevel_27 : decode cX4_meanLevel 27 = .ok (.iconst 0, 1) := by decide +kernel
theorem dX4_meanLevel_28 : decode cX4_meanLevel 28 = .ok (.istore_n 2, 1) := by decide +kernel
theorem dX4_meanLevel_29 : decode cX4_meanLevel 29 = .ok (.iload_n 2, 1) := by decide +kernel
theorem dX4_meanLevel_30 : decode cX4_meanLevel 30 = .ok (.aload_n 0, 1) := by decide +kernel
theorem dX4_meanLevel_31 : decode cX4_meanLevel 31 = .ok (.getfield 76, 3) := by decide +kernel
theorem dX4_meanLevel_34 : decode cX4_meanLevel 34 = .ok (.if_icmp .ge 18, 3) := by decide +kernel
theorem dX4_meanLevel_37 : decode cX4_meanLevel 37 = .ok (.iload_n 1, 1) := by decide +kernel
theorem dX4_meanLevel_38 : decode cX4_meanLevel 38 = .ok (.aload_n 0, 1) := by decide +kernel
theorem dX4_meanLevel_39 : decode cX4_meanLevel 39 = .ok (.getfield 19, 3) := by decide +kernel
theorem dX4_meanLevel_42 : decode cX4_meanLevel 42 = .ok (.iload_n 2, 1) := by decide +kernel
theorem dX4_meanLevel_43 : decode cX4_meanLevel 43 = .ok (.iaload, 1) := by decide +kernel
theorem dX4_meanLevel_44 : decode cX4_meanLevel 44 = .ok (.iadd, 1) := by decide +kernel
theorem dX4_meanLevel_45 : decode cX4_meanLevel 45 = .ok (.istore_n 1, 1) := by decide +kernel
theorem dX4_meanLevel_46 : decode cX4_meanLevel 46 = .ok (.iinc 2 1, 3) := by decide +kernel
theorem dX4_meanLevel_49 : decode cX4_meanLevel 49 = .ok (.goto (-20), 3) := by decide +kernel
theorem dX4_meanLevel_52 : decode cX4_meanLevel 52 = .ok (.iload_n 1, 1) := by decide +kernel
theorem dX4_meanLevel_53 : decode cX4_meanLevel 53 = .ok (.i2d, 1) := by decide +kernel
theorem dX4_meanLevel_54 : decode cX4_meanLevel 54 = .ok (.aload_n 0, 1) := by decide +kernel
theorem dX4_meanLevel_55 : decode cX4_meanLevel 55 = .ok (.getfield 76, 3) := by decide +kernel
theorem dX4_meanLevel_58 : decode cX4_meanLevel 58 = .ok (.i2d, 1) := by decide +kernel
theorem dX4_meanLevel_59 : decode cX4_meanLevel 59 = .ok (.ddiv, 1) := by decide +kernel
theorem dX4_meanLevel_60 : decode cX4_meanLevel 60 = .ok (.dreturn, 1) := by decide +kernel
theorem dX4_isSound_0 : decode cX4_isSound 0 = .ok (.aload_n 0, 1) := by decide +kernel
theorem dX4_isSound_1 : decode cX4_isSound 1 = .ok (.iconst 0, 1) := by decide +kernel
theorem dX4_isSound_2 : decode cX4_isSound 2 = .ok (.putfield 72, 3) := by decide +kernel
theorem dX4_isSound_5 : decode cX4_isSound 5 = .ok (.iconst 1, 1) := by decide +kernel
theorem dX4_isSound_6 : decode cX4_isSound 6 = .ok (.ireturn, 1) := by decide +kernel
end
section
theorem dL_type_0 : decode cL_type 0 = .ok (.aload_n 2, 1) := by decide +kernel
theorem dL_type_1 : decode cL_type 1 = .ok (.iconst 0, 1) := by decide +kernel
theorem dL_type_2 : decode cL_type 2 = .ok (.aload_n 0, 1) := by decide +kernel
theorem dL_type_3 : decode cL_type 3 = .ok (.iload_n 1, 1) := by decide +kernel
theorem dL_type_4 : decode cL_type 4 = .ok (.invokevirtual 7, 3) := by decide +kernel
theorem dL_type_7 : decode cL_type 7 = .ok (.i2l, 1) := by decide +kernel
theorem dL_type_8 : decode cL_type 8 = .ok (.lastore, 1) := by decide +kernel
theorem dL_type_9 : decode cL_type 9 = .ok (.goto 9, 3) := by decide +kernel
theorem dL_type_12 : decode cL_type 12 = .ok (.astore_n 3, 1) := by decide +kernel
theorem dL_type_13 : decode cL_type 13 = .ok (.iconst 1, 1) := by decide +kernel
theorem dL_type_14 : decode cL_type 14 = .ok (.ireturn, 1) := by decide +kernel
theorem dL_type_15 : decode cL_type 15 = .ok (.astore_n 3, 1) := by decide +kernel
theorem dL_type_16 : decode cL_type 16 = .ok (.iconst 2, 1) := by decide +kernel
theorem dL_type_17 : decode cL_type 17 = .ok (.ireturn, 1) := by decide +kernel
theorem dL_type_18 : decode cL_type 18 = .ok (.iconst 0, 1) := by decide +kernel
theorem dL_type_19 : decode cL_type 19 = .ok (.ireturn, 1) := by decide +kernel
theorem dL_add_0 : decode cL_add 0 = .ok (.aload_n 2, 1) := by decide +kernel
theorem dL_add_1 : decode cL_add 1 = .ok (.iconst 0, 1) := by decide +kernel
theorem dL_add_2 : decode cL_add 2 = .ok (.aload_n 0, 1) := by decide +kernel
theorem dL_add_3 : decode cL_add 3 = .ok (.iload_n 1, 1) := by decide +kernel
theorem dL_add_4 : decode cL_add 4 = .ok (.invokevirtual 17, 3) := by decide +kernel
theorem dL_add_7 : decode cL_add 7 = .ok (.i2l, 1) := by decide +kernel
theorem dL_add_8 : decode cL_add 8 = .ok (.lastore, 1) := by decide +kernel
theorem dL_add_9 : decode cL_add 9 = .ok (.goto 12, 3) := by decide +kernel
theorem dL_add_12 : decode cL_add 12 = .ok (.astore_n 3, 1) := by decide +kernel
theorem dL_add_13 : decode cL_add 13 = .ok (.iconst 1, 1) := by decide +kernel
theorem dL_add_14 : decode cL_add 14 = .ok (.ireturn, 1) := by decide +kernel
theorem dL_add_15 : decode cL_add 15 = .ok (.astore_n 3, 1) := by decide +kernel
theorem dL_add_16 : decode cL_add 16 = .ok (.iconst 2, 1) := by decide +kernel
theorem dL_add_17 : decode cL_add 17 = .ok (.ireturn, 1) := by decide +kernel
theorem dL_add_18 : decode cL_add 18 = .ok (.astore_n 3, 1) := by decide +kernel
theorem dL_add_19 : decode cL_add 19 = .ok (.iconst 3, 1) := by decide +kernel
theorem dL_add_20 : decode cL_add 20 = .ok (.ireturn, 1) := by decide +kernel
theorem dL_add_21 : decode cL_add 21 = .ok (.iconst 0, 1) := by decide +kernel
theorem dL_add_22 : decode cL_add 22 = .ok (.ireturn, 1) := by decide +kernel
theorem dL_twin_0 : decode cL_twin 0 = .ok (.aload_n 3, 1) := by decide +kernel
theorem dL_twin_1 : decode cL_twin 1 = .ok (.iconst 0, 1) := by decide +kernel
theorem dL_twin_2 : decode cL_twin 2 = .ok (.aload_n 0, 1) := by decide +kernel
theorem dL_twin_3 : decode cL_twin 3 = .ok (.iload_n 1, 1) := by decide +kernel
theorem dL_twin_4 : decode cL_twin 4 = .ok (.iload_n 2, 1) := by decide +kernel
theorem dL_twin_5 : decode cL_twin 5 = .ok (.invokevirtual 22, 3) := by decide +kernel
theorem dL_twin_8 : decode cL_twin 8 = .ok (.i2l, 1) := by decide +kernel
theorem dL_twin_9 : decode cL_twin 9 = .ok (.lastore, 1) := by decide +kernel
theorem dL_twin_10 : decode cL_twin 10 = .ok (.goto 11, 3) := by decide +kernel
theorem dL_twin_13 : decode cL_twin 13 = .ok (.astore 4, 2) := by decide +kernel
theorem dL_twin_15 : decode cL_twin 15 = .ok (.iconst 1, 1) := by decide +kernel
theorem dL_twin_16 : decode cL_twin 16 = .ok (.ireturn, 1) := by decide +kernel
theorem dL_twin_17 : decode cL_twin 17 = .ok (.astore 4, 2) := by decide +kernel
theorem dL_twin_19 : decode cL_twin 19 = .ok (.iconst 2, 1) := by decide +kernel
theorem dL_twin_20 : decode cL_twin 20 = .ok (.ireturn, 1) := by decide +kernel
theorem dL_twin_21 : decode cL_twin 21 = .ok (.iconst 0, 1) := by decide +kernel
theorem dL_twin_22 : decode cL_twin 22 = .ok (.ireturn, 1) := by decide +kernel
theorem dL_areTwins_0 : decode cL_areTwins 0 = .ok (.aload_n 3, 1) := by decide +kernel
theorem dL_areTwins_1 : decode cL_areTwins 1 = .ok (.iconst 0, 1) := by decide +kernel
theorem dL_areTwins_2 : decode cL_areTwins 2 = .ok (.aload_n 0, 1) := by decide +kernel
theorem dL_areTwins_3 : decode cL_areTwins 3 = .ok (.iload_n 1, 1) := by decide +kernel
theorem dL_areTwins_4 : decode cL_areTwins 4 = .ok (.iload_n 2, 1) := by decide +kernel
theorem dL_areTwins_5 : decode cL_areTwins 5 = .ok (.invokevirtual 28, 3) := by decide +kernel
theorem dL_areTwins_8 : decode cL_areTwins 8 = .ok (.ifCond .eq 7, 3) := by decide +kernel
theorem dL_areTwins_11 : decode cL_areTwins 11 = .ok (.lconst 1, 1) := by decide +kernel
theorem dL_areTwins_12 : decode cL_areTwins 12 = .ok (.goto 4, 3) := by decide +kernel
theorem dL_areTwins_15 : decode cL_areTwins 15 = .ok (.lconst 0, 1) := by decide +kernel
theorem dL_areTwins_16 : decode cL_areTwins 16 = .ok (.lastore, 1) := by decide +kernel
theorem dL_areTwins_17 : decode cL_areTwins 17 = .ok (.goto 7, 3) := by decide +kernel
theorem dL_areTwins_20 : decode cL_areTwins 20 = .ok (.astore 4, 2) := by decide +kernel
theorem dL_areTwins_22 : decode cL_areTwins 22 = .ok (.iconst 1, 1) := by decide +kernel
theorem dL_areTwins_23 : decode cL_areTwins 23 = .ok (.ireturn, 1) := by decide +kernel
theorem dL_areTwins_24 : decode cL_areTwins 24 = .ok (.iconst 0, 1) := by decide +kernel
theorem dL_areTwins_25 : decode cL_areTwins 25 = .ok (.ireturn, 1) := by decide +kernel
theorem dL_wordAt_0 : decode cL_wordAt 0 = .ok (.aload_n 3, 1) := by decide +kernel
theorem dL_wordAt_1 : decode cL_wordAt 1 = .ok (.iconst 0, 1) := by decide +kernel
theorem dL_wordAt_2 : decode cL_wordAt 2 = .ok (.aload_n 0, 1) := by decide +kernel
theorem dL_wordAt_3 : decode cL_wordAt 3 = .ok (.iload_n 1, 1) := by decide +kernel
theorem dL_wordAt_4 : decode cL_wordAt 4 = .ok (.iload_n 2, 1) := by decide +kernel
theorem dL_wordAt_5 : decode cL_wordAt 5 = .ok (.invokevirtual 32, 3) := by decide +kernel
theorem dL_wordAt_8 : decode cL_wordAt 8 = .ok (.i2l, 1) := by decide +kernel
theorem dL_wordAt_9 : decode cL_wordAt 9 = .ok (.lastore, 1) := by decide +kernel
theorem dL_wordAt_10 : decode cL_wordAt 10 = .ok (.goto 11, 3) := by decide +kernel
theorem dL_wordAt_13 : decode cL_wordAt 13 = .ok (.astore 4, 2) := by decide +kernel
theorem dL_wordAt_15 : decode cL_wordAt 15 = .ok (.iconst 1, 1) := by decide +kernel
theorem dL_wordAt_16 : decode cL_wordAt 16 = .ok (.ireturn, 1) := by decide +kernel
theorem dL_wordAt_17 : decode cL_wordAt 17 = .ok (.astore 4, 2) := by decide +kernel
theorem dL_wordAt_19 : decode cL_wordAt 19 = .ok (.iconst 2, 1) := by decide +kernel
theorem dL_wordAt_20 : decode cL_wordAt 20 = .ok (.ireturn, 1) := by decide +kernel
theorem dL_wordAt_21 : decode cL_wordAt 21 = .ok (.iconst 0, 1) := by decide +kernel
theorem dL_wordAt_22 : decode cL_wordAt 22 = .ok (.ireturn, 1) := by decide +kernel
theorem dL_level_0 : decode cL_level 0 = .ok (.aload_n 2, 1) := by decide +kernel
theorem dL_level_1 : decode cL_level 1 = .ok (.iconst 0, 1) := by decide +kernel
theorem dL_level_2 : decode cL_level 2 = .ok (.aload_n 0, 1) := by decide +kernel
theorem dL_level_3 : decode cL_level 3 = .ok (.iload_n 1, 1) := by decide +kernel
theorem dL_level_4 : decode cL_level 4 = .ok (.invokevirtual 37, 3) := by decide +kernel
theorem dL_level_7 : decode cL_level 7 = .ok (.i2l, 1) := by decide +kernel
theorem dL_level_8 : decode cL_level 8 = .ok (.lastore, 1) := by decide +kernel
theorem dL_level_9 : decode cL_level 9 = .ok (.goto 6, 3) := by decide +kernel
theorem dL_level_12 : decode cL_level 12 = .ok (.astore_n 3, 1) := by decide +kernel
theorem dL_level_13 : decode cL_level 13 = .ok (.iconst 1, 1) := by decide +kernel
theorem dL_level_14 : decode cL_level 14 = .ok (.ireturn, 1) := by decide +kernel
theorem dL_level_15 : decode cL_level 15 = .ok (.iconst 0, 1) := by decide +kernel
theorem dL_level_16 : decode cL_level 16 = .ok (.ireturn, 1) := by decide +kernel
theorem dL_levelAnew_0 : decode cL_levelAnew 0 = .ok (.aload_n 2, 1) := by decide +kernel
theorem dL_levelAnew_1 : decode cL_levelAnew 1 = .ok (.iconst 0, 1) := by decide +kernel
theorem dL_levelAnew_2 : decode cL_levelAnew 2 = .ok (.aload_n 0, 1) := by decide +kernel
theorem dL_levelAnew_3 : decode cL_levelAnew 3 = .ok (.iload_n 1, 1) := by decide +kernel
theorem dL_levelAnew_4 : decode cL_levelAnew 4 = .ok (.invokevirtual 40, 3) := by decide +kernel
theorem dL_levelAnew_7 : decode cL_levelAnew 7 = .ok (.i2l, 1) := by decide +kernel
theorem dL_levelAnew_8 : decode cL_levelAnew 8 = .ok (.lastore, 1) := by decide +kernel
theorem dL_levelAnew_9 : decode cL_levelAnew 9 = .ok (.goto 6, 3) := by decide +kernel
theorem dL_levelAnew_12 : decode cL_levelAnew 12 = .ok (.astore_n 3, 1) := by decide +kernel
theorem dL_levelAnew_13 : decode cL_levelAnew 13 = .ok (.iconst 1, 1) := by decide +kernel
theorem dL_levelAnew_14 : decode cL_levelAnew 14 = .ok (.ireturn, 1) := by decide +kernel
theorem dL_levelAnew_15 : decode cL_levelAnew 15 = .ok (.iconst 0, 1) := by decide +kernel
theorem dL_levelAnew_16 : decode cL_levelAnew 16 = .ok (.ireturn, 1) := by decide +kernel
theorem dL_kind_0 : decode cL_kind 0 = .ok (.aload_n 2, 1) := by decide +kernel
theorem dL_kind_1 : decode cL_kind 1 = .ok (.iconst 0, 1) := by decide +kernel
theorem dL_kind_2 : decode cL_kind 2 = .ok (.aload_n 0, 1) := by decide +kernel
theorem dL_kind_3 : decode cL_kind 3 = .ok (.iload_n 1, 1) := by decide +kernel
theorem dL_kind_4 : decode cL_kind 4 = .ok (.invokevirtual 43, 3) := by decide +kernel
theorem dL_kind_7 : decode cL_kind 7 = .ok (.i2l, 1) := by decide +kernel
theorem dL_kind_8 : decode cL_kind 8 = .ok (.lastore, 1) := by decide +kernel
theorem dL_kind_9 : decode cL_kind 9 = .ok (.goto 6, 3) := by decide +kernel
theorem dL_kind_12 : decode cL_kind 12 = .ok (.astore_n 3, 1) := by decide +kernel
theorem dL_kind_13 : decode cL_kind 13 = .ok (.iconst 1, 1) := by decide +kernel
theorem dL_kind_14 : decode cL_kind 14 = .ok (.ireturn, 1) := by decide +kernel
theorem dL_kind_15 : decode cL_kind 15 = .ok (.iconst 0, 1) := by decide +kernel
theorem dL_kind_16 : decode cL_kind 16 = .ok (.ireturn, 1) := by decide +kernel
theorem dL_search_0 : decode cL_search 0 = .ok (.aload_n 1, 1) := by decide +kernel
theorem dL_search_1 : decode cL_search 1 = .ok (.iconst 0, 1) := by decide +kernel
theorem dL_search_2 : decode cL_search 2 = .ok (.aload_n 0, 1) := by decide +kernel
theorem dL_search_3 : decode cL_search 3 = .ok (.invokevirtual 47, 3) := by decide +kernel
theorem dL_search_6 : decode cL_search 6 = .ok (.i2l, 1) := by decide +kernel
theorem dL_search_7 : decode cL_search 7 = .ok (.lastore, 1) := by decide +kernel
theorem dL_search_8 : decode cL_search 8 = .ok (.goto 6, 3) := by decide +kernel
theorem dL_search_11 : decode cL_search 11 = .ok (.astore_n 2, 1) := by decide +kernel
theorem dL_search_12 : decode cL_search 12 = .ok (.iconst 1, 1) := by decide +kernel
theorem dL_search_13 : decode cL_search 13 = .ok (.ireturn, 1) := by decide +kernel
theorem dL_search_14 : decode cL_search 14 = .ok (.iconst 0, 1) := by decide +kernel
theorem dL_search_15 : decode cL_search 15 = .ok (.ireturn, 1) := by decide +kernel
theorem dL_hitAt_0 : decode cL_hitAt 0 = .ok (.aload_n 2, 1) := by decide +kernel
theorem dL_hitAt_1 : decode cL_hitAt 1 = .ok (.iconst 0, 1) := by decide +kernel
theorem dL_hitAt_2 : decode cL_hitAt 2 = .ok (.aload_n 0, 1) := by decide +kernel
theorem dL_hitAt_3 : decode cL_hitAt 3 = .ok (.iload_n 1, 1) := by decide +kernel
theorem dL_hitAt_4 : decode cL_hitAt 4 = .ok (.invokevirtual 51, 3) := by decide +kernel
theorem dL_hitAt_7 : decode cL_hitAt 7 = .ok (.i2l, 1) := by decide +kernel
theorem dL_hitAt_8 : decode cL_hitAt 8 = .ok (.lastore, 1) := by decide +kernel
theorem dL_hitAt_9 : decode cL_hitAt 9 = .ok (.goto 6, 3) := by decide +kernel
theorem dL_hitAt_12 : decode cL_hitAt 12 = .ok (.astore_n 3, 1) := by decide +kernel
theorem dL_hitAt_13 : decode cL_hitAt 13 = .ok (.iconst 1, 1) := by decide +kernel
theorem dL_hitAt_14 : decode cL_hitAt 14 = .ok (.ireturn, 1) := by decide +kernel
theorem dL_hitAt_15 : decode cL_hitAt 15 = .ok (.iconst 0, 1) := by decide +kernel
theorem dL_hitAt_16 : decode cL_hitAt 16 = .ok (.ireturn, 1) := by decide +kernel
theorem dL_rankAt_0 : decode cL_rankAt 0 = .ok (.aload_n 2, 1) := by decide +kernel
theorem dL_rankAt_1 : decode cL_rankAt 1 = .ok (.iconst 0, 1) := by decide +kernel
theorem dL_rankAt_2 : decode cL_rankAt 2 = .ok (.aload_n 0, 1) := by decide +kernel
theorem dL_rankAt_3 : decode cL_rankAt 3 = .ok (.iload_n 1, 1) := by decide +kernel
theorem dL_rankAt_4 : decode cL_rankAt 4 = .ok (.invokevirtual 54, 3) := by decide +kernel
theorem dL_rankAt_7 : decode cL_rankAt 7 = .ok (.i2l, 1) := by decide +kernel
theorem dL_rankAt_8 : decode cL_rankAt 8 = .ok (.lastore, 1) := by decide +kernel
theorem dL_rankAt_9 : decode cL_rankAt 9 = .ok (.goto 6, 3) := by decide +kernel
theorem dL_rankAt_12 : decode cL_rankAt 12 = .ok (.astore_n 3, 1) := by decide +kernel
theorem dL_rankAt_13 : decode cL_rankAt 13 = .ok (.iconst 1, 1) := by decide +kernel
theorem dL_rankAt_14 : decode cL_rankAt 14 = .ok (.ireturn, 1) := by decide +kernel
theorem dL_rankAt_15 : decode cL_rankAt 15 = .ok (.iconst 0, 1) := by decide +kernel
theorem dL_rankAt_16 : decode cL_rankAt 16 = .ok (.ireturn, 1) := by decide +kernel
theorem dL_nextWeek_0 : decode cL_nextWeek 0 = .ok (.aload_n 1, 1) := by decide +kernel
theorem dL_nextWeek_1 : decode cL_nextWeek 1 = .ok (.iconst 0, 1) := by decide +kernel
theorem dL_nextWeek_2 : decode cL_nextWeek 2 = .ok (.aload_n 0, 1) := by decide +kernel
theorem dL_nextWeek_3 : decode cL_nextWeek 3 = .ok (.invokevirtual 57, 3) := by decide +kernel
theorem dL_nextWeek_6 : decode cL_nextWeek 6 = .ok (.i2l, 1) := by decide +kernel
theorem dL_nextWeek_7 : decode cL_nextWeek 7 = .ok (.lastore, 1) := by decide +kernel
theorem dL_nextWeek_8 : decode cL_nextWeek 8 = .ok (.goto 6, 3) := by decide +kernel
theorem dL_nextWeek_11 : decode cL_nextWeek 11 = .ok (.astore_n 2, 1) := by decide +kernel
theorem dL_nextWeek_12 : decode cL_nextWeek 12 = .ok (.iconst 1, 1) := by decide +kernel
theorem dL_nextWeek_13 : decode cL_nextWeek 13 = .ok (.ireturn, 1) := by decide +kernel
theorem dL_nextWeek_14 : decode cL_nextWeek 14 = .ok (.iconst 0, 1) := by decide +kernel
theorem dL_nextWeek_15 : decode cL_nextWeek 15 = .ok (.ireturn, 1) := by decide +kernel
theorem dL_plan_0 : decode cL_plan 0 = .ok (.aload 4, 2) := by decide +kernel
theorem dL_plan_2 : decode cL_plan 2 = .ok (.iconst 0, 1) := by decide +kernel
theorem dL_plan_3 : decode cL_plan 3 = .ok (.aload_n 0, 1) := by decide +kernel
theorem dL_plan_4 : decode cL_plan 4 = .ok (.iload_n 1, 1) := by decide +kernel
theorem dL_plan_5 : decode cL_plan 5 = .ok (.iload_n 2, 1) := by decide +kernel
theorem dL_plan_6 : decode cL_plan 6 = .ok (.iload_n 3, 1) := by decide +kernel
theorem dL_plan_7 : decode cL_plan 7 = .ok (.invokevirtual 60, 3) := by decide +kernel
theorem dL_plan_10 : decode cL_plan 10 = .ok (.i2l, 1) := by decide +kernel
theorem dL_plan_11 : decode cL_plan 11 = .ok (.lastore, 1) := by decide +kernel
theorem dL_plan_12 : decode cL_plan 12 = .ok (.goto 11, 3) := by decide +kernel
theorem dL_plan_15 : decode cL_plan 15 = .ok (.astore 5, 2) := by decide +kernel
theorem dL_plan_17 : decode cL_plan 17 = .ok (.iconst 1, 1) := by decide +kernel
theorem dL_plan_18 : decode cL_plan 18 = .ok (.ireturn, 1) := by decide +kernel
theorem dL_plan_19 : decode cL_plan 19 = .ok (.astore 5, 2) := by decide +kernel
theorem dL_plan_21 : decode cL_plan 21 = .ok (.iconst 2, 1) := by decide +kernel
theorem dL_plan_22 : decode cL_plan 22 = .ok (.ireturn, 1) := by decide +kernel
theorem dL_plan_23 : decode cL_plan 23 = .ok (.iconst 0, 1) := by decide +kernel
theorem dL_plan_24 : decode cL_plan 24 = .ok (.ireturn, 1) := by decide +kernel
theorem dL_drop_0 : decode cL_drop 0 = .ok (.aload_n 2, 1) := by decide +kernel
theorem dL_drop_1 : decode cL_drop 1 = .ok (.iconst 0, 1) := by decide +kernel
theorem dL_drop_2 : decode cL_drop 2 = .ok (.aload_n 0, 1) := by decide +kernel
theorem dL_drop_3 : decode cL_drop 3 = .ok (.iload_n 1, 1) := by decide +kernel
theorem dL_drop_4 : decode cL_drop 4 = .ok (.invokevirtual 64, 3) := by decide +kernel
theorem dL_drop_7 : decode cL_drop 7 = .ok (.i2l, 1) := by decide +kernel
theorem dL_drop_8 : decode cL_drop 8 = .ok (.lastore, 1) := by decide +kernel
theorem dL_drop_9 : decode cL_drop 9 = .ok (.goto 9, 3) := by decide +kernel
theorem dL_drop_12 : decode cL_drop 12 = .ok (.astore_n 3, 1) := by decide +kernel
theorem dL_drop_13 : decode cL_drop 13 = .ok (.iconst 1, 1) := by decide +kernel
theorem dL_drop_14 : decode cL_drop 14 = .ok (.ireturn, 1) := by decide +kernel
theorem dL_drop_15 : decode cL_drop 15 = .ok (.astore_n 3, 1) := by decide +kernel
theorem dL_drop_16 : decode cL_drop 16 = .ok (.iconst 2, 1) := by decide +kernel
theorem dL_drop_17 : decode cL_drop 17 = .ok (.ireturn, 1) := by decide +kernel
theorem dL_drop_18 : decode cL_drop 18 = .ok (.iconst 0, 1) := by decide +kernel
theorem dL_drop_19 : decode cL_drop 19 = .ok (.ireturn, 1) := by decide +kernel
theorem dL_held_0 : decode cL_held 0 = .ok (.aload_n 2, 1) := by decide +kernel
theorem dL_held_1 : decode cL_held 1 = .ok (.iconst 0, 1) := by decide +kernel
theorem dL_held_2 : decode cL_held 2 = .ok (.aload_n 0, 1) := by decide +kernel
theorem dL_held_3 : decode cL_held 3 = .ok (.iload_n 1, 1) := by decide +kernel
theorem dL_held_4 : decode cL_held 4 = .ok (.invokevirtual 67, 3) := by decide +kernel
theorem dL_held_7 : decode cL_held 7 = .ok (.i2l, 1) := by decide +kernel
theorem dL_held_8 : decode cL_held 8 = .ok (.lastore, 1) := by decide +kernel
theorem dL_held_9 : decode cL_held 9 = .ok (.goto 6, 3) := by decide +kernel
theorem dL_held_12 : decode cL_held 12 = .ok (.astore_n 3, 1) := by decide +kernel
theorem dL_held_13 : decode cL_held 13 = .ok (.iconst 1, 1) := by decide +kernel
theorem dL_held_14 : decode cL_held 14 = .ok (.ireturn, 1) := by decide +kernel
theorem dL_held_15 : decode cL_held 15 = .ok (.iconst 0, 1) := by decide +kernel
theorem dL_held_16 : decode cL_held 16 = .ok (.ireturn, 1) := by decide +kernel
theorem dL_heldAt_0 : decode cL_heldAt 0 = .ok (.aload_n 3, 1) := by decide +kernel
theorem dL_heldAt_1 : decode cL_heldAt 1 = .ok (.iconst 0, 1) := by decide +kernel
theorem dL_heldAt_2 : decode cL_heldAt 2 = .ok (.aload_n 0, 1) := by decide +kernel
theorem dL_heldAt_3 : decode cL_heldAt 3 = .ok (.iload_n 1, 1) := by decide +kernel
theorem dL_heldAt_4 : decode cL_heldAt 4 = .ok (.iload_n 2, 1) := by decide +kernel
theorem dL_heldAt_5 : decode cL_heldAt 5 = .ok (.invokevirtual 70, 3) := by decide +kernel
theorem dL_heldAt_8 : decode cL_heldAt 8 = .ok (.i2l, 1) := by decide +kernel
theorem dL_heldAt_9 : decode cL_heldAt 9 = .ok (.lastore, 1) := by decide +kernel
theorem dL_heldAt_10 : decode cL_heldAt 10 = .ok (.goto 11, 3) := by decide +kernel
theorem dL_heldAt_13 : decode cL_heldAt 13 = .ok (.astore 4, 2) := by decide +kernel
theorem dL_heldAt_15 : decode cL_heldAt 15 = .ok (.iconst 1, 1) := by decide +kernel
theorem dL_heldAt_16 : decode cL_heldAt 16 = .ok (.ireturn, 1) := by decide +kernel
theorem dL_heldAt_17 : decode cL_heldAt 17 = .ok (.astore 4, 2) := by decide +kernel
theorem dL_heldAt_19 : decode cL_heldAt 19 = .ok (.iconst 2, 1) := by decide +kernel
theorem dL_heldAt_20 : decode cL_heldAt 20 = .ok (.ireturn, 1) := by decide +kernel
theorem dL_heldAt_21 : decode cL_heldAt 21 = .ok (.iconst 0, 1) := by decide +kernel
theorem dL_heldAt_22 : decode cL_heldAt 22 = .ok (.ireturn, 1) := by decide +kernel
theorem dL_lacks_0 : decode cL_lacks 0 = .ok (.aload_n 2, 1) := by decide +kernel
theorem dL_lacks_1 : decode cL_lacks 1 = .ok (.iconst 0, 1) := by decide +kernel
theorem dL_lacks_2 : decode cL_lacks 2 = .ok (.aload_n 0, 1) := by decide +kernel
theorem dL_lacks_3 : decode cL_lacks 3 = .ok (.iload_n 1, 1) := by decide +kernel
theorem dL_lacks_4 : decode cL_lacks 4 = .ok (.invokevirtual 73, 3) := by decide +kernel
theorem dL_lacks_7 : decode cL_lacks 7 = .ok (.i2l, 1) := by decide +kernel
theorem dL_lacks_8 : decode cL_lacks 8 = .ok (.lastore, 1) := by decide +kernel
theorem dL_lacks_9 : decode cL_lacks 9 = .ok (.goto 6, 3) := by decide +kernel
theorem dL_lacks_12 : decode cL_lacks 12 = .ok (.astore_n 3, 1) := by decide +kernel
theorem dL_lacks_13 : decode cL_lacks 13 = .ok (.iconst 1, 1) := by decide +kernel
theorem dL_lacks_14 : decode cL_lacks 14 = .ok (.ireturn, 1) := by decide +kernel
theorem dL_lacks_15 : decode cL_lacks 15 = .ok (.iconst 0, 1) := by decide +kernel
theorem dL_lacks_16 : decode cL_lacks 16 = .ok (.ireturn, 1) := by decide +kernel
theorem dL_isFree_0 : decode cL_isFree 0 = .ok (.aload_n 2, 1) := by decide +kernel
theorem dL_isFree_1 : decode cL_isFree 1 = .ok (.iconst 0, 1) := by decide +kernel
theorem dL_isFree_2 : decode cL_isFree 2 = .ok (.aload_n 0, 1) := by decide +kernel
theorem dL_isFree_3 : decode cL_isFree 3 = .ok (.iload_n 1, 1) := by decide +kernel
theorem dL_isFree_4 : decode cL_isFree 4 = .ok (.invokevirtual 76, 3) := by decide +kernel
theorem dL_isFree_7 : decode cL_isFree 7 = .ok (.ifCond .eq 7, 3) := by decide +kernel
theorem dL_isFree_10 : decode cL_isFree 10 = .ok (.lconst 1, 1) := by decide +kernel
theorem dL_isFree_11 : decode cL_isFree 11 = .ok (.goto 4, 3) := by decide +kernel
theorem dL_isFree_14 : decode cL_isFree 14 = .ok (.lconst 0, 1) := by decide +kernel
theorem dL_isFree_15 : decode cL_isFree 15 = .ok (.lastore, 1) := by decide +kernel
theorem dL_isFree_16 : decode cL_isFree 16 = .ok (.goto 6, 3) := by decide +kernel
theorem dL_isFree_19 : decode cL_isFree 19 = .ok (.astore_n 3, 1) := by decide +kernel
theorem dL_isFree_20 : decode cL_isFree 20 = .ok (.iconst 1, 1) := by decide +kernel
theorem dL_isFree_21 : decode cL_isFree 21 = .ok (.ireturn, 1) := by decide +kernel
theorem dL_isFree_22 : decode cL_isFree 22 = .ok (.iconst 0, 1) := by decide +kernel
theorem dL_isFree_23 : decode cL_isFree 23 = .ok (.ireturn, 1) := by decide +kernel
theorem dL_quiz_0 : decode cL_quiz 0 = .ok (.aload 5, 2) := by decide +kernel
theorem dL_quiz_2 : decode cL_quiz 2 = .ok (.iconst 0, 1) := by decide +kernel
theorem dL_quiz_3 : decode cL_quiz 3 = .ok (.aload_n 0, 1) := by decide +kernel
theorem dL_quiz_4 : decode cL_quiz 4 = .ok (.iload_n 1, 1) := by decide +kernel
theorem dL_quiz_5 : decode cL_quiz 5 = .ok (.iload_n 2, 1) := by decide +kernel
theorem dL_quiz_6 : decode cL_quiz 6 = .ok (.iload_n 3, 1) := by decide +kernel
theorem dL_quiz_7 : decode cL_quiz 7 = .ok (.iload 4, 2) := by decide +kernel
theorem dL_quiz_9 : decode cL_quiz 9 = .ok (.invokevirtual 80, 3) := by decide +kernel
theorem dL_quiz_12 : decode cL_quiz 12 = .ok (.i2l, 1) := by decide +kernel
theorem dL_quiz_13 : decode cL_quiz 13 = .ok (.lastore, 1) := by decide +kernel
theorem dL_quiz_14 : decode cL_quiz 14 = .ok (.goto 15, 3) := by decide +kernel
theorem dL_quiz_17 : decode cL_quiz 17 = .ok (.astore 6, 2) := by decide +kernel
theorem dL_quiz_19 : decode cL_quiz 19 = .ok (.iconst 1, 1) := by decide +kernel
theorem dL_quiz_20 : decode cL_quiz 20 = .ok (.ireturn, 1) := by decide +kernel
theorem dL_quiz_21 : decode cL_quiz 21 = .ok (.astore 6, 2) := by decide +kernel
theorem dL_quiz_23 : decode cL_quiz 23 = .ok (.iconst 2, 1) := by decide +kernel
theorem dL_quiz_24 : decode cL_quiz 24 = .ok (.ireturn, 1) := by decide +kernel
theorem dL_quiz_25 : decode cL_quiz 25 = .ok (.astore 6, 2) := by decide +kernel
theorem dL_quiz_27 : decode cL_quiz 27 = .ok (.iconst 3, 1) := by decide +kernel
theorem dL_quiz_28 : decode cL_quiz 28 = .ok (.ireturn, 1) := by decide +kernel
theorem dL_quiz_29 : decode cL_quiz 29 = .ok (.iconst 0, 1) := by decide +kernel
theorem dL_quiz_30 : decode cL_quiz 30 = .ok (.ireturn, 1) := by decide +kernel
theorem dL_quizOf_0 : decode cL_quizOf 0 = .ok (.aload_n 2, 1) := by decide +kernel
theorem dL_quizOf_1 : decode cL_quizOf 1 = .ok (.iconst 0, 1) := by decide +kernel
theorem dL_quizOf_2 : decode cL_quizOf 2 = .ok (.aload_n 0, 1) := by decide +kernel
theorem dL_quizOf_3 : decode cL_quizOf 3 = .ok (.iload_n 1, 1) := by decide +kernel
theorem dL_quizOf_4 : decode cL_quizOf 4 = .ok (.invokevirtual 84, 3) := by decide +kernel
theorem dL_quizOf_7 : decode cL_quizOf 7 = .ok (.i2l, 1) := by decide +kernel
theorem dL_quizOf_8 : decode cL_quizOf 8 = .ok (.lastore, 1) := by decide +kernel
theorem dL_quizOf_9 : decode cL_quizOf 9 = .ok (.goto 12, 3) := by decide +kernel
theorem dL_quizOf_12 : decode cL_quizOf 12 = .ok (.astore_n 3, 1) := by decide +kernel
theorem dL_quizOf_13 : decode cL_quizOf 13 = .ok (.iconst 1, 1) := by decide +kernel
theorem dL_quizOf_14 : decode cL_quizOf 14 = .ok (.ireturn, 1) := by decide +kernel
theorem dL_quizOf_15 : decode cL_quizOf 15 = .ok (.astore_n 3, 1) := by decide +kernel
theorem dL_quizOf_16 : decode cL_quizOf 16 = .ok (.iconst 2, 1) := by decide +kernel
theorem dL_quizOf_17 : decode cL_quizOf 17 = .ok (.ireturn, 1) := by decide +kernel
theorem dL_quizOf_18 : decode cL_quizOf 18 = .ok (.astore_n 3, 1) := by decide +kernel
theorem dL_quizOf_19 : decode cL_quizOf 19 = .ok (.iconst 3, 1) := by decide +kernel
theorem dL_quizOf_20 : decode cL_quizOf 20 = .ok (.ireturn, 1) := by decide +kernel
theorem dL_quizOf_21 : decode cL_quizOf 21 = .ok (.iconst 0, 1) := by decide +kernel
theorem dL_quizOf_22 : decode cL_quizOf 22 = .ok (.ireturn, 1) := by decide +kernel
theorem dL_size_0 : decode cL_size 0 = .ok (.aload_n 2, 1) := by decide +kernel
theorem dL_size_1 : decode cL_size 1 = .ok (.iconst 0, 1) := by decide +kernel
theorem dL_size_2 : decode cL_size 2 = .ok (.aload_n 0, 1) := by decide +kernel
theorem dL_size_3 : decode cL_size 3 = .ok (.iload_n 1, 1) := by decide +kernel
theorem dL_size_4 : decode cL_size 4 = .ok (.invokevirtual 87, 3) := by decide +kernel
theorem dL_size_7 : decode cL_size 7 = .ok (.i2l, 1) := by decide +kernel
theorem dL_size_8 : decode cL_size 8 = .ok (.lastore, 1) := by decide +kernel
theorem dL_size_9 : decode cL_size 9 = .ok (.goto 6, 3) := by decide +kernel
theorem dL_size_12 : decode cL_size 12 = .ok (.astore_n 3, 1) := by decide +kernel
theorem dL_size_13 : decode cL_size 13 = .ok (.iconst 1, 1) := by decide +kernel
theorem dL_size_14 : decode cL_size 14 = .ok (.ireturn, 1) := by decide +kernel
theorem dL_size_15 : decode cL_size 15 = .ok (.iconst 0, 1) := by decide +kernel
theorem dL_size_16 : decode cL_size 16 = .ok (.ireturn, 1) := by decide +kernel
theorem dL_questionAt_0 : decode cL_questionAt 0 = .ok (.aload_n 3, 1) := by decide +kernel
theorem dL_questionAt_1 : decode cL_questionAt 1 = .ok (.iconst 0, 1) := by decide +kernel
theorem dL_questionAt_2 : decode cL_questionAt 2 = .ok (.aload_n 0, 1) := by decide +kernel
theorem dL_questionAt_3 : decode cL_questionAt 3 = .ok (.iload_n 1, 1) := by decide +kernel
theorem dL_questionAt_4 : decode cL_questionAt 4 = .ok (.iload_n 2, 1) := by decide +kernel
theorem dL_questionAt_5 : decode cL_questionAt 5 = .ok (.invokevirtual 90, 3) := by decide +kernel
theorem dL_questionAt_8 : decode cL_questionAt 8 = .ok (.i2l, 1) := by decide +kernel
theorem dL_questionAt_9 : decode cL_questionAt 9 = .ok (.lastore, 1) := by decide +kernel
theorem dL_questionAt_10 : decode cL_questionAt 10 = .ok (.goto 11, 3) := by decide +kernel
theorem dL_questionAt_13 : decode cL_questionAt 13 = .ok (.astore 4, 2) := by decide +kernel
theorem dL_questionAt_15 : decode cL_questionAt 15 = .ok (.iconst 1, 1) := by decide +kernel
theorem dL_questionAt_16 : decode cL_questionAt 16 = .ok (.ireturn, 1) := by decide +kernel
theorem dL_questionAt_17 : decode cL_questionAt 17 = .ok (.astore 4, 2) := by decide +kernel
theorem dL_questionAt_19 : decode cL_questionAt 19 = .ok (.iconst 2, 1) := by decide +kernel
theorem dL_questionAt_20 : decode cL_questionAt 20 = .ok (.ireturn, 1) := by decide +kernel
theorem dL_questionAt_21 : decode cL_questionAt 21 = .ok (.iconst 0, 1) := by decide +kernel
theorem dL_questionAt_22 : decode cL_questionAt 22 = .ok (.ireturn, 1) := by decide +kernel
theorem dL_stateOf_0 : decode cL_stateOf 0 = .ok (.aload_n 2, 1) := by decide +kernel
theorem dL_stateOf_1 : decode cL_stateOf 1 = .ok (.iconst 0, 1) := by decide +kernel
theorem dL_stateOf_2 : decode cL_stateOf 2 = .ok (.aload_n 0, 1) := by decide +kernel
theorem dL_stateOf_3 : decode cL_stateOf 3 = .ok (.iload_n 1, 1) := by decide +kernel
theorem dL_stateOf_4 : decode cL_stateOf 4 = .ok (.invokevirtual 93, 3) := by decide +kernel
theorem dL_stateOf_7 : decode cL_stateOf 7 = .ok (.i2l, 1) := by decide +kernel
theorem dL_stateOf_8 : decode cL_stateOf 8 = .ok (.lastore, 1) := by decide +kernel
theorem dL_stateOf_9 : decode cL_stateOf 9 = .ok (.goto 6, 3) := by decide +kernel
theorem dL_stateOf_12 : decode cL_stateOf 12 = .ok (.astore_n 3, 1) := by decide +kernel
theorem dL_stateOf_13 : decode cL_stateOf 13 = .ok (.iconst 1, 1) := by decide +kernel
theorem dL_stateOf_14 : decode cL_stateOf 14 = .ok (.ireturn, 1) := by decide +kernel
theorem dL_stateOf_15 : decode cL_stateOf 15 = .ok (.iconst 0, 1) := by decide +kernel
theorem dL_stateOf_16 : decode cL_stateOf 16 = .ok (.ireturn, 1) := by decide +kernel
theorem dL_print_0 : decode cL_print 0 = .ok (.aload_n 1, 1) := by decide +kernel
theorem dL_print_1 : decode cL_print 1 = .ok (.iconst 0, 1) := by decide +kernel
theorem dL_print_2 : decode cL_print 2 = .ok (.aload_n 0, 1) := by decide +kernel
theorem dL_print_3 : decode cL_print 3 = .ok (.invokevirtual 96, 3) := by decide +kernel
theorem dL_print_6 : decode cL_print 6 = .ok (.i2l, 1) := by decide +kernel
theorem dL_print_7 : decode cL_print 7 = .ok (.lastore, 1) := by decide +kernel
theorem dL_print_8 : decode cL_print 8 = .ok (.goto 9, 3) := by decide +kernel
theorem dL_print_11 : decode cL_print 11 = .ok (.astore_n 2, 1) := by decide +kernel
theorem dL_print_12 : decode cL_print 12 = .ok (.iconst 1, 1) := by decide +kernel
theorem dL_print_13 : decode cL_print 13 = .ok (.ireturn, 1) := by decide +kernel
theorem dL_print_14 : decode cL_print 14 = .ok (.astore_n 2, 1) := by decide +kernel
theorem dL_print_15 : decode cL_print 15 = .ok (.iconst 2, 1) := by decide +kernel
theorem dL_print_16 : decode cL_print 16 = .ok (.ireturn, 1) := by decide +kernel
theorem dL_print_17 : decode cL_print 17 = .ok (.iconst 0, 1) := by decide +kernel
theorem dL_print_18 : decode cL_print 18 = .ok (.ireturn, 1) := by decide +kernel
theorem dL_cancel_0 : decode cL_cancel 0 = .ok (.aload_n 2, 1) := by decide +kernel
theorem dL_cancel_1 : decode cL_cancel 1 = .ok (.iconst 0, 1) := by decide +kernel
theorem dL_cancel_2 : decode cL_cancel 2 = .ok (.aload_n 0, 1) := by decide +kernel
theorem dL_cancel_3 : decode cL_cancel 3 = .ok (.iload_n 1, 1) := by decide +kernel
theorem dL_cancel_4 : decode cL_cancel 4 = .ok (.invokevirtual 99, 3) := by decide +kernel
theorem dL_cancel_7 : decode cL_cancel 7 = .ok (.i2l, 1) := by decide +kernel
theorem dL_cancel_8 : decode cL_cancel 8 = .ok (.lastore, 1) := by decide +kernel
theorem dL_cancel_9 : decode cL_cancel 9 = .ok (.goto 9, 3) := by decide +kernel
theorem dL_cancel_12 : decode cL_cancel 12 = .ok (.astore_n 3, 1) := by decide +kernel
theorem dL_cancel_13 : decode cL_cancel 13 = .ok (.iconst 1, 1) := by decide +kernel
theorem dL_cancel_14 : decode cL_cancel 14 = .ok (.ireturn, 1) := by decide +kernel
theorem dL_cancel_15 : decode cL_cancel 15 = .ok (.astore_n 3, 1) := by decide +kernel
theorem dL_cancel_16 : decode cL_cancel 16 = .ok (.iconst 2, 1) := by decide +kernel
theorem dL_cancel_17 : decode cL_cancel 17 = .ok (.ireturn, 1) := by decide +kernel
theorem dL_cancel_18 : decode cL_cancel 18 = .ok (.iconst 0, 1) := by decide +kernel
theorem dL_cancel_19 : decode cL_cancel 19 = .ok (.ireturn, 1) := by decide +kernel
theorem dL_answer_0 : decode cL_answer 0 = .ok (.aload 4, 2) := by decide +kernel
theorem dL_answer_2 : decode cL_answer 2 = .ok (.iconst 0, 1) := by decide +kernel
theorem dL_answer_3 : decode cL_answer 3 = .ok (.aload_n 0, 1) := by decide +kernel
theorem dL_answer_4 : decode cL_answer 4 = .ok (.iload_n 1, 1) := by decide +kernel
theorem dL_answer_5 : decode cL_answer 5 = .ok (.iload_n 2, 1) := by decide +kernel
theorem dL_answer_6 : decode cL_answer 6 = .ok (.iload_n 3, 1) := by decide +kernel
theorem dL_answer_7 : decode cL_answer 7 = .ok (.invokevirtual 102, 3) := by decide +kernel
theorem dL_answer_10 : decode cL_answer 10 = .ok (.i2l, 1) := by decide +kernel
theorem dL_answer_11 : decode cL_answer 11 = .ok (.lastore, 1) := by decide +kernel
theorem dL_answer_12 : decode cL_answer 12 = .ok (.goto 15, 3) := by decide +kernel
theorem dL_answer_15 : decode cL_answer 15 = .ok (.astore 5, 2) := by decide +kernel
theorem dL_answer_17 : decode cL_answer 17 = .ok (.iconst 1, 1) := by decide +kernel
theorem dL_answer_18 : decode cL_answer 18 = .ok (.ireturn, 1) := by decide +kernel
theorem dL_answer_19 : decode cL_answer 19 = .ok (.astore 5, 2) := by decide +kernel
theorem dL_answer_21 : decode cL_answer 21 = .ok (.iconst 2, 1) := by decide +kernel
theorem dL_answer_22 : decode cL_answer 22 = .ok (.ireturn, 1) := by decide +kernel
theorem dL_answer_23 : decode cL_answer 23 = .ok (.astore 5, 2) := by decide +kernel
theorem dL_answer_25 : decode cL_answer 25 = .ok (.iconst 3, 1) := by decide +kernel
theorem dL_answer_26 : decode cL_answer 26 = .ok (.ireturn, 1) := by decide +kernel
theorem dL_answer_27 : decode cL_answer 27 = .ok (.iconst 0, 1) := by decide +kernel
theorem dL_answer_28 : decode cL_answer 28 = .ok (.ireturn, 1) := by decide +kernel
theorem dL_textOf_0 : decode cL_textOf 0 = .ok (.aload_n 3, 1) := by decide +kernel
theorem dL_textOf_1 : decode cL_textOf 1 = .ok (.iconst 0, 1) := by decide +kernel
theorem dL_textOf_2 : decode cL_textOf 2 = .ok (.aload_n 0, 1) := by decide +kernel
theorem dL_textOf_3 : decode cL_textOf 3 = .ok (.iload_n 1, 1) := by decide +kernel
theorem dL_textOf_4 : decode cL_textOf 4 = .ok (.iload_n 2, 1) := by decide +kernel
theorem dL_textOf_5 : decode cL_textOf 5 = .ok (.invokevirtual 106, 3) := by decide +kernel
theorem dL_textOf_8 : decode cL_textOf 8 = .ok (.i2l, 1) := by decide +kernel
theorem dL_textOf_9 : decode cL_textOf 9 = .ok (.lastore, 1) := by decide +kernel
theorem dL_textOf_10 : decode cL_textOf 10 = .ok (.goto 11, 3) := by decide +kernel
theorem dL_textOf_13 : decode cL_textOf 13 = .ok (.astore 4, 2) := by decide +kernel
theorem dL_textOf_15 : decode cL_textOf 15 = .ok (.iconst 1, 1) := by decide +kernel
theorem dL_textOf_16 : decode cL_textOf 16 = .ok (.ireturn, 1) := by decide +kernel
theorem dL_textOf_17 : decode cL_textOf 17 = .ok (.astore 4, 2) := by decide +kernel
theorem dL_textOf_19 : decode cL_textOf 19 = .ok (.iconst 2, 1) := by decide +kernel
theorem dL_textOf_20 : decode cL_textOf 20 = .ok (.ireturn, 1) := by decide +kernel
theorem dL_textOf_21 : decode cL_textOf 21 = .ok (.iconst 0, 1) := by decide +kernel
theorem dL_textOf_22 : decode cL_textOf 22 = .ok (.ireturn, 1) := by decide +kernel
theorem dL_rightShare_0 : decode cL_rightShare 0 = .ok (.aload_n 1, 1) := by decide +kernel
theorem dL_rightShare_1 : decode cL_rightShare 1 = .ok (.iconst 0, 1) := by decide +kernel
theorem dL_rightShare_2 : decode cL_rightShare 2 = .ok (.aload_n 0, 1) := by decide +kernel
theorem dL_rightShare_3 : decode cL_rightShare 3 = .ok (.invokevirtual 110, 3) := by decide +kernel
theorem dL_rightShare_6 : decode cL_rightShare 6 = .ok (.f2d, 1) := by decide +kernel
theorem dL_rightShare_7 : decode cL_rightShare 7 = .ok (.dastore, 1) := by decide +kernel
theorem dL_rightShare_8 : decode cL_rightShare 8 = .ok (.goto 6, 3) := by decide +kernel
theorem dL_rightShare_11 : decode cL_rightShare 11 = .ok (.astore_n 2, 1) := by decide +kernel
theorem dL_rightShare_12 : decode cL_rightShare 12 = .ok (.iconst 1, 1) := by decide +kernel
theorem dL_rightShare_13 : decode cL_rightShare 13 = .ok (.ireturn, 1) := by decide +kernel
theorem dL_rightShare_14 : decode cL_rightShare 14 = .ok (.iconst 0, 1) := by decide +kernel
theorem dL_rightShare_15 : decode cL_rightShare 15 = .ok (.ireturn, 1) := by decide +kernel
theorem dL_meanLevel_0 : decode cL_meanLevel 0 = .ok (.aload_n 1, 1) := by decide +kernel
theorem dL_meanLevel_1 : decode cL_meanLevel 1 = .ok (.iconst 0, 1) := by decide +kernel
theorem dL_meanLevel_2 : decode cL_meanLevel 2 = .ok (.aload_n 0, 1) := by decide +kernel
theorem dL_meanLevel_3 : decode cL_meanLevel 3 = .ok (.invokevirtual 116, 3) := by decide +kernel
theorem dL_meanLevel_6 : decode cL_meanLevel 6 = .ok (.dastore, 1) := by decide +kernel
theorem dL_meanLevel_7 : decode cL_meanLevel 7 = .ok (.goto 6, 3) := by decide +kernel
theorem dL_meanLevel_10 : decode cL_meanLevel 10 = .ok (.astore_n 2, 1) := by decide +kernel
theorem dL_meanLevel_11 : decode cL_meanLevel 11 = .ok (.iconst 1, 1) := by decide +kernel
theorem dL_meanLevel_12 : decode cL_meanLevel 12 = .ok (.ireturn, 1) := by decide +kernel
theorem dL_meanLevel_13 : decode cL_meanLevel 13 = .ok (.iconst 0, 1) := by decide +kernel
theorem dL_meanLevel_14 : decode cL_meanLevel 14 = .ok (.ireturn, 1) := by decide +kernel
theorem dL_law_0 : decode cL_law 0 = .ok (.new 8, 3) := by decide +kernel
theorem dL_law_3 : decode cL_law 3 = .ok (.dup, 1) := by decide +kernel
theorem dL_law_4 : decode cL_law 4 = .ok (.invokespecial 120, 3) := by decide +kernel
theorem dL_law_7 : decode cL_law 7 = .ok (.astore_n 1, 1) := by decide +kernel
theorem dL_law_8 : decode cL_law 8 = .ok (.new 121, 3) := by decide +kernel
theorem dL_law_11 : decode cL_law 11 = .ok (.dup, 1) := by decide +kernel
theorem dL_law_12 : decode cL_law 12 = .ok (.invokespecial 123, 3) := by decide +kernel
theorem dL_law_15 : decode cL_law 15 = .ok (.astore_n 2, 1) := by decide +kernel
theorem dL_law_16 : decode cL_law 16 = .ok (.iconst 1, 1) := by decide +kernel
theorem dL_law_17 : decode cL_law 17 = .ok (.newarray .long, 2) := by decide +kernel
theorem dL_law_19 : decode cL_law 19 = .ok (.astore_n 3, 1) := by decide +kernel
theorem dL_law_20 : decode cL_law 20 = .ok (.iconst 1, 1) := by decide +kernel
theorem dL_law_21 : decode cL_law 21 = .ok (.newarray .double, 2) := by decide +kernel
theorem dL_law_23 : decode cL_law 23 = .ok (.astore 4, 2) := by decide +kernel
theorem dL_law_25 : decode cL_law 25 = .ok (.iconst 0, 1) := by decide +kernel
theorem dL_law_26 : decode cL_law 26 = .ok (.istore 5, 2) := by decide +kernel
theorem dL_law_28 : decode cL_law 28 = .ok (.iload 5, 2) := by decide +kernel
theorem dL_law_30 : decode cL_law 30 = .ok (.aload_n 0, 1) := by decide +kernel
theorem dL_law_31 : decode cL_law 31 = .ok (.arraylength, 1) := by decide +kernel
theorem dL_law_32 : decode cL_law 32 = .ok (.iconst 5, 1) := by decide +kernel
theorem dL_law_33 : decode cL_law 33 = .ok (.isub, 1) := by decide +kernel
theorem dL_law_34 : decode cL_law 34 = .ok (.if_icmp .gt 2091, 3) := by decide +kernel
theorem dL_law_37 : decode cL_law 37 = .ok (.aload_n 0, 1) := by decide +kernel
theorem dL_law_38 : decode cL_law 38 = .ok (.iload 5, 2) := by decide +kernel
theorem dL_law_40 : decode cL_law 40 = .ok (.iaload, 1) := by decide +kernel
theorem dL_law_41 : decode cL_law 41 = .ok (.bipush 63, 2) := by decide +kernel
theorem dL_law_43 : decode cL_law 43 = .ok (.iand, 1) := by decide +kernel
theorem dL_law_44 : decode cL_law 44 = .ok (.tableswitch 2075 0 35 #[160, 216, 229, 285, 353, 428, 496, 552, 608, 664, 708, 764, 820, 833, 877, 959, 1015, 1071, 1139, 1195, 1258, 1350, 1406, 1462, 1530, 1586, 1599, 1640, 1684, 1740, 1836, 1904, 1917, 1931, 1997, 2062], 160) := by decide +kernel
theorem dL_law_204 : decode cL_law 204 = .ok (.aload_n 1, 1) := by decide +kernel
theorem dL_law_205 : decode cL_law 205 = .ok (.aload_n 0, 1) := by decide +kernel
theorem dL_law_206 : decode cL_law 206 = .ok (.iload 5, 2) := by decide +kernel
theorem dL_law_208 : decode cL_law 208 = .ok (.iconst 1, 1) := by decide +kernel
theorem dL_law_209 : decode cL_law 209 = .ok (.iadd, 1) := by decide +kernel
theorem dL_law_210 : decode cL_law 210 = .ok (.iaload, 1) := by decide +kernel
theorem dL_law_211 : decode cL_law 211 = .ok (.aload_n 3, 1) := by decide +kernel
theorem dL_law_212 : decode cL_law 212 = .ok (.invokestatic 124, 3) := by decide +kernel
theorem dL_law_215 : decode cL_law 215 = .ok (.istore 6, 2) := by decide +kernel
theorem dL_law_217 : decode cL_law 217 = .ok (.aload_n 2, 1) := by decide +kernel
theorem dL_law_218 : decode cL_law 218 = .ok (.aload_n 0, 1) := by decide +kernel
theorem dL_law_219 : decode cL_law 219 = .ok (.iload 5, 2) := by decide +kernel
theorem dL_law_221 : decode cL_law 221 = .ok (.iconst 1, 1) := by decide +kernel
theorem dL_law_222 : decode cL_law 222 = .ok (.iadd, 1) := by decide +kernel
theorem dL_law_223 : decode cL_law 223 = .ok (.iaload, 1) := by decide +kernel
theorem dL_law_224 : decode cL_law 224 = .ok (.invokevirtual 129, 3) := by decide +kernel
theorem dL_law_227 : decode cL_law 227 = .ok (.istore 7, 2) := by decide +kernel
theorem dL_law_229 : decode cL_law 229 = .ok (.aload_n 2, 1) := by decide +kernel
theorem dL_law_230 : decode cL_law 230 = .ok (.invokevirtual 130, 3) := by decide +kernel
theorem dL_law_233 : decode cL_law 233 = .ok (.iload 6, 2) := by decide +kernel
theorem dL_law_235 : decode cL_law 235 = .ok (.if_icmp .eq 5, 3) := by decide +kernel
theorem dL_law_238 : decode cL_law 238 = .ok (.iconst 0, 1) := by decide +kernel
theorem dL_law_239 : decode cL_law 239 = .ok (.ireturn, 1) := by decide +kernel
theorem dL_law_240 : decode cL_law 240 = .ok (.iload 6, 2) := by decide +kernel
theorem dL_law_242 : decode cL_law 242 = .ok (.ifCond .ne 15, 3) := by decide +kernel
theorem dL_law_245 : decode cL_law 245 = .ok (.aload_n 3, 1) := by decide +kernel
theorem dL_law_246 : decode cL_law 246 = .ok (.iconst 0, 1) := by decide +kernel
theorem dL_law_247 : decode cL_law 247 = .ok (.laload, 1) := by decide +kernel
theorem dL_law_248 : decode cL_law 248 = .ok (.iload 7, 2) := by decide +kernel
theorem dL_law_250 : decode cL_law 250 = .ok (.i2l, 1) := by decide +kernel
theorem dL_law_251 : decode cL_law 251 = .ok (.lcmp, 1) := by decide +kernel
theorem dL_law_252 : decode cL_law 252 = .ok (.ifCond .eq 5, 3) := by decide +kernel
theorem dL_law_255 : decode cL_law 255 = .ok (.iconst 0, 1) := by decide +kernel
theorem dL_law_256 : decode cL_law 256 = .ok (.ireturn, 1) := by decide +kernel
theorem dL_law_257 : decode cL_law 257 = .ok (.goto 1862, 3) := by decide +kernel
theorem dL_law_260 : decode cL_law 260 = .ok (.aload_n 1, 1) := by decide +kernel
theorem dL_law_261 : decode cL_law 261 = .ok (.invokevirtual 133, 3) := by decide +kernel
theorem dL_law_264 : decode cL_law 264 = .ok (.aload_n 2, 1) := by decide +kernel
theorem dL_law_265 : decode cL_law 265 = .ok (.invokevirtual 136, 3) := by decide +kernel
theorem dL_law_268 : decode cL_law 268 = .ok (.if_icmp .eq 1851, 3) := by decide +kernel
theorem dL_law_271 : decode cL_law 271 = .ok (.iconst 0, 1) := by decide +kernel
theorem dL_law_272 : decode cL_law 272 = .ok (.ireturn, 1) := by decide +kernel
theorem dL_law_273 : decode cL_law 273 = .ok (.aload_n 1, 1) := by decide +kernel
theorem dL_law_274 : decode cL_law 274 = .ok (.aload_n 0, 1) := by decide +kernel
theorem dL_law_275 : decode cL_law 275 = .ok (.iload 5, 2) := by decide +kernel
theorem dL_law_277 : decode cL_law 277 = .ok (.iconst 1, 1) := by decide +kernel
theorem dL_law_278 : decode cL_law 278 = .ok (.iadd, 1) := by decide +kernel
theorem dL_law_279 : decode cL_law 279 = .ok (.iaload, 1) := by decide +kernel
theorem dL_law_280 : decode cL_law 280 = .ok (.aload_n 3, 1) := by decide +kernel
theorem dL_law_281 : decode cL_law 281 = .ok (.invokestatic 137, 3) := by decide +kernel
theorem dL_law_284 : decode cL_law 284 = .ok (.istore 6, 2) := by decide +kernel
theorem dL_law_286 : decode cL_law 286 = .ok (.aload_n 2, 1) := by decide +kernel
theorem dL_law_287 : decode cL_law 287 = .ok (.aload_n 0, 1) := by decide +kernel
theorem dL_law_288 : decode cL_law 288 = .ok (.iload 5, 2) := by decide +kernel
theorem dL_law_290 : decode cL_law 290 = .ok (.iconst 1, 1) := by decide +kernel
theorem dL_law_291 : decode cL_law 291 = .ok (.iadd, 1) := by decide +kernel
theorem dL_law_292 : decode cL_law 292 = .ok (.iaload, 1) := by decide +kernel
theorem dL_law_293 : decode cL_law 293 = .ok (.invokevirtual 139, 3) := by decide +kernel
theorem dL_law_296 : decode cL_law 296 = .ok (.istore 7, 2) := by decide +kernel
theorem dL_law_298 : decode cL_law 298 = .ok (.aload_n 2, 1) := by decide +kernel
theorem dL_law_299 : decode cL_law 299 = .ok (.invokevirtual 130, 3) := by decide +kernel
theorem dL_law_302 : decode cL_law 302 = .ok (.iload 6, 2) := by decide +kernel
theorem dL_law_304 : decode cL_law 304 = .ok (.if_icmp .eq 5, 3) := by decide +kernel
theorem dL_law_307 : decode cL_law 307 = .ok (.iconst 0, 1) := by decide +kernel
theorem dL_law_308 : decode cL_law 308 = .ok (.ireturn, 1) := by decide +kernel
theorem dL_law_309 : decode cL_law 309 = .ok (.iload 6, 2) := by decide +kernel
theorem dL_law_311 : decode cL_law 311 = .ok (.ifCond .ne 15, 3) := by decide +kernel
theorem dL_law_314 : decode cL_law 314 = .ok (.aload_n 3, 1) := by decide +kernel
theorem dL_law_315 : decode cL_law 315 = .ok (.iconst 0, 1) := by decide +kernel
theorem dL_law_316 : decode cL_law 316 = .ok (.laload, 1) := by decide +kernel
theorem dL_law_317 : decode cL_law 317 = .ok (.iload 7, 2) := by decide +kernel
theorem dL_law_319 : decode cL_law 319 = .ok (.i2l, 1) := by decide +kernel
theorem dL_law_320 : decode cL_law 320 = .ok (.lcmp, 1) := by decide +kernel
theorem dL_law_321 : decode cL_law 321 = .ok (.ifCond .eq 5, 3) := by decide +kernel
theorem dL_law_324 : decode cL_law 324 = .ok (.iconst 0, 1) := by decide +kernel
theorem dL_law_325 : decode cL_law 325 = .ok (.ireturn, 1) := by decide +kernel
theorem dL_law_326 : decode cL_law 326 = .ok (.goto 1793, 3) := by decide +kernel
theorem dL_law_329 : decode cL_law 329 = .ok (.aload_n 1, 1) := by decide +kernel
theorem dL_law_330 : decode cL_law 330 = .ok (.aload_n 0, 1) := by decide +kernel
theorem dL_law_331 : decode cL_law 331 = .ok (.iload 5, 2) := by decide +kernel
theorem dL_law_333 : decode cL_law 333 = .ok (.iconst 1, 1) := by decide +kernel
theorem dL_law_334 : decode cL_law 334 = .ok (.iadd, 1) := by decide +kernel
theorem dL_law_335 : decode cL_law 335 = .ok (.iaload, 1) := by decide +kernel
theorem dL_law_336 : decode cL_law 336 = .ok (.aload_n 0, 1) := by decide +kernel
theorem dL_law_337 : decode cL_law 337 = .ok (.iload 5, 2) := by decide +kernel
theorem dL_law_339 : decode cL_law 339 = .ok (.iconst 2, 1) := by decide +kernel
theorem dL_law_340 : decode cL_law 340 = .ok (.iadd, 1) := by decide +kernel
theorem dL_law_341 : decode cL_law 341 = .ok (.iaload, 1) := by decide +kernel
theorem dL_law_342 : decode cL_law 342 = .ok (.aload_n 3, 1) := by decide +kernel
theorem dL_law_343 : decode cL_law 343 = .ok (.invokestatic 140, 3) := by decide +kernel
theorem dL_law_346 : decode cL_law 346 = .ok (.istore 6, 2) := by decide +kernel
theorem dL_law_348 : decode cL_law 348 = .ok (.aload_n 2, 1) := by decide +kernel
theorem dL_law_349 : decode cL_law 349 = .ok (.aload_n 0, 1) := by decide +kernel
theorem dL_law_350 : decode cL_law 350 = .ok (.iload 5, 2) := by decide +kernel
theorem dL_law_352 : decode cL_law 352 = .ok (.iconst 1, 1) := by decide +kernel
theorem dL_law_353 : decode cL_law 353 = .ok (.iadd, 1) := by decide +kernel
theorem dL_law_354 : decode cL_law 354 = .ok (.iaload, 1) := by decide +kernel
theorem dL_law_355 : decode cL_law 355 = .ok (.aload_n 0, 1) := by decide +kernel
theorem dL_law_356 : decode cL_law 356 = .ok (.iload 5, 2) := by decide +kernel
theorem dL_law_358 : decode cL_law 358 = .ok (.iconst 2, 1) := by decide +kernel
theorem dL_law_359 : decode cL_law 359 = .ok (.iadd, 1) := by decide +kernel
theorem dL_law_360 : decode cL_law 360 = .ok (.iaload, 1) := by decide +kernel
theorem dL_law_361 : decode cL_law 361 = .ok (.invokevirtual 143, 3) := by decide +kernel
theorem dL_law_364 : decode cL_law 364 = .ok (.istore 7, 2) := by decide +kernel
theorem dL_law_366 : decode cL_law 366 = .ok (.aload_n 2, 1) := by decide +kernel
theorem dL_law_367 : decode cL_law 367 = .ok (.invokevirtual 130, 3) := by decide +kernel
theorem dL_law_370 : decode cL_law 370 = .ok (.iload 6, 2) := by decide +kernel
theorem dL_law_372 : decode cL_law 372 = .ok (.if_icmp .eq 5, 3) := by decide +kernel
theorem dL_law_375 : decode cL_law 375 = .ok (.iconst 0, 1) := by decide +kernel
theorem dL_law_376 : decode cL_law 376 = .ok (.ireturn, 1) := by decide +kernel
theorem dL_law_377 : decode cL_law 377 = .ok (.iload 6, 2) := by decide +kernel
theorem dL_law_379 : decode cL_law 379 = .ok (.ifCond .ne 15, 3) := by decide +kernel
theorem dL_law_382 : decode cL_law 382 = .ok (.aload_n 3, 1) := by decide +kernel
theorem dL_law_383 : decode cL_law 383 = .ok (.iconst 0, 1) := by decide +kernel
theorem dL_law_384 : decode cL_law 384 = .ok (.laload, 1) := by decide +kernel
theorem dL_law_385 : decode cL_law 385 = .ok (.iload 7, 2) := by decide +kernel
theorem dL_law_387 : decode cL_law 387 = .ok (.i2l, 1) := by decide +kernel
theorem dL_law_388 : decode cL_law 388 = .ok (.lcmp, 1) := by decide +kernel
theorem dL_law_389 : decode cL_law 389 = .ok (.ifCond .eq 5, 3) := by decide +kernel
theorem dL_law_392 : decode cL_law 392 = .ok (.iconst 0, 1) := by decide +kernel
theorem dL_law_393 : decode cL_law 393 = .ok (.ireturn, 1) := by decide +kernel
theorem dL_law_394 : decode cL_law 394 = .ok (.goto 1725, 3) := by decide +kernel
theorem dL_law_397 : decode cL_law 397 = .ok (.aload_n 1, 1) := by decide +kernel
theorem dL_law_398 : decode cL_law 398 = .ok (.aload_n 0, 1) := by decide +kernel
theorem dL_law_399 : decode cL_law 399 = .ok (.iload 5, 2) := by decide +kernel
theorem dL_law_401 : decode cL_law 401 = .ok (.iconst 1, 1) := by decide +kernel
theorem dL_law_402 : decode cL_law 402 = .ok (.iadd, 1) := by decide +kernel
theorem dL_law_403 : decode cL_law 403 = .ok (.iaload, 1) := by decide +kernel
theorem dL_law_404 : decode cL_law 404 = .ok (.aload_n 0, 1) := by decide +kernel
theorem dL_law_405 : decode cL_law 405 = .ok (.iload 5, 2) := by decide +kernel
theorem dL_law_407 : decode cL_law 407 = .ok (.iconst 2, 1) := by decide +kernel
theorem dL_law_408 : decode cL_law 408 = .ok (.iadd, 1) := by decide +kernel
theorem dL_law_409 : decode cL_law 409 = .ok (.iaload, 1) := by decide +kernel
theorem dL_law_410 : decode cL_law 410 = .ok (.aload_n 3, 1) := by decide +kernel
theorem dL_law_411 : decode cL_law 411 = .ok (.invokestatic 144, 3) := by decide +kernel
theorem dL_law_414 : decode cL_law 414 = .ok (.istore 6, 2) := by decide +kernel
theorem dL_law_416 : decode cL_law 416 = .ok (.aload_n 2, 1) := by decide +kernel
theorem dL_law_417 : decode cL_law 417 = .ok (.aload_n 0, 1) := by decide +kernel
theorem dL_law_418 : decode cL_law 418 = .ok (.iload 5, 2) := by decide +kernel
theorem dL_law_420 : decode cL_law 420 = .ok (.iconst 1, 1) := by decide +kernel
theorem dL_law_421 : decode cL_law 421 = .ok (.iadd, 1) := by decide +kernel
theorem dL_law_422 : decode cL_law 422 = .ok (.iaload, 1) := by decide +kernel
theorem dL_law_423 : decode cL_law 423 = .ok (.aload_n 0, 1) := by decide +kernel
theorem dL_law_424 : decode cL_law 424 = .ok (.iload 5, 2) := by decide +kernel
theorem dL_law_426 : decode cL_law 426 = .ok (.iconst 2, 1) := by decide +kernel
theorem dL_law_427 : decode cL_law 427 = .ok (.iadd, 1) := by decide +kernel
theorem dL_law_428 : decode cL_law 428 = .ok (.iaload, 1) := by decide +kernel
theorem dL_law_429 : decode cL_law 429 = .ok (.invokevirtual 146, 3) := by decide +kernel
theorem dL_law_432 : decode cL_law 432 = .ok (.istore 7, 2) := by decide +kernel
theorem dL_law_434 : decode cL_law 434 = .ok (.aload_n 2, 1) := by decide +kernel
theorem dL_law_435 : decode cL_law 435 = .ok (.invokevirtual 130, 3) := by decide +kernel
theorem dL_law_438 : decode cL_law 438 = .ok (.iload 6, 2) := by decide +kernel
theorem dL_law_440 : decode cL_law 440 = .ok (.if_icmp .eq 5, 3) := by decide +kernel
theorem dL_law_443 : decode cL_law 443 = .ok (.iconst 0, 1) := by decide +kernel
theorem dL_law_444 : decode cL_law 444 = .ok (.ireturn, 1) := by decide +kernel
theorem dL_law_445 : decode cL_law 445 = .ok (.iload 6, 2) := by decide +kernel
theorem dL_law_447 : decode cL_law 447 = .ok (.ifCond .ne 22, 3) := by decide +kernel
theorem dL_law_450 : decode cL_law 450 = .ok (.aload_n 3, 1) := by decide +kernel
theorem dL_law_451 : decode cL_law 451 = .ok (.iconst 0, 1) := by decide +kernel
theorem dL_law_452 : decode cL_law 452 = .ok (.laload, 1) := by decide +kernel
theorem dL_law_453 : decode cL_law 453 = .ok (.iload 7, 2) := by decide +kernel
theorem dL_law_455 : decode cL_law 455 = .ok (.ifCond .eq 7, 3) := by decide +kernel
theorem dL_law_458 : decode cL_law 458 = .ok (.lconst 1, 1) := by decide +kernel
theorem dL_law_459 : decode cL_law 459 = .ok (.goto 4, 3) := by decide +kernel
theorem dL_law_462 : decode cL_law 462 = .ok (.lconst 0, 1) := by decide +kernel
theorem dL_law_463 : decode cL_law 463 = .ok (.lcmp, 1) := by decide +kernel
theorem dL_law_464 : decode cL_law 464 = .ok (.ifCond .eq 5, 3) := by decide +kernel
theorem dL_law_467 : decode cL_law 467 = .ok (.iconst 0, 1) := by decide +kernel
theorem dL_law_468 : decode cL_law 468 = .ok (.ireturn, 1) := by decide +kernel
theorem dL_law_469 : decode cL_law 469 = .ok (.goto 1650, 3) := by decide +kernel
theorem dL_law_472 : decode cL_law 472 = .ok (.aload_n 1, 1) := by decide +kernel
theorem dL_law_473 : decode cL_law 473 = .ok (.aload_n 0, 1) := by decide +kernel
theorem dL_law_474 : decode cL_law 474 = .ok (.iload 5, 2) := by decide +kernel
theorem dL_law_476 : decode cL_law 476 = .ok (.iconst 1, 1) := by decide +kernel
theorem dL_law_477 : decode cL_law 477 = .ok (.iadd, 1) := by decide +kernel
theorem dL_law_478 : decode cL_law 478 = .ok (.iaload, 1) := by decide +kernel
theorem dL_law_479 : decode cL_law 479 = .ok (.aload_n 0, 1) := by decide +kernel
theorem dL_law_480 : decode cL_law 480 = .ok (.iload 5, 2) := by decide +kernel
theorem dL_law_482 : decode cL_law 482 = .ok (.iconst 2, 1) := by decide +kernel
theorem dL_law_483 : decode cL_law 483 = .ok (.iadd, 1) := by decide +kernel
theorem dL_law_484 : decode cL_law 484 = .ok (.iaload, 1) := by decide +kernel
theorem dL_law_485 : decode cL_law 485 = .ok (.aload_n 3, 1) := by decide +kernel
theorem dL_law_486 : decode cL_law 486 = .ok (.invokestatic 147, 3) := by decide +kernel
theorem dL_law_489 : decode cL_law 489 = .ok (.istore 6, 2) := by decide +kernel
theorem dL_law_491 : decode cL_law 491 = .ok (.aload_n 2, 1) := by decide +kernel
theorem dL_law_492 : decode cL_law 492 = .ok (.aload_n 0, 1) := by decide +kernel
theorem dL_law_493 : decode cL_law 493 = .ok (.iload 5, 2) := by decide +kernel
theorem dL_law_495 : decode cL_law 495 = .ok (.iconst 1, 1) := by decide +kernel
theorem dL_law_496 : decode cL_law 496 = .ok (.iadd, 1) := by decide +kernel
theorem dL_law_497 : decode cL_law 497 = .ok (.iaload, 1) := by decide +kernel
theorem dL_law_498 : decode cL_law 498 = .ok (.aload_n 0, 1) := by decide +kernel
theorem dL_law_499 : decode cL_law 499 = .ok (.iload 5, 2) := by decide +kernel
theorem dL_law_501 : decode cL_law 501 = .ok (.iconst 2, 1) := by decide +kernel
theorem dL_law_502 : decode cL_law 502 = .ok (.iadd, 1) := by decide +kernel
theorem dL_law_503 : decode cL_law 503 = .ok (.iaload, 1) := by decide +kernel
theorem dL_law_504 : decode cL_law 504 = .ok (.invokevirtual 149, 3) := by decide +kernel
theorem dL_law_507 : decode cL_law 507 = .ok (.istore 7, 2) := by decide +kernel
theorem dL_law_509 : decode cL_law 509 = .ok (.aload_n 2, 1) := by decide +kernel
theorem dL_law_510 : decode cL_law 510 = .ok (.invokevirtual 130, 3) := by decide +kernel
theorem dL_law_513 : decode cL_law 513 = .ok (.iload 6, 2) := by decide +kernel
theorem dL_law_515 : decode cL_law 515 = .ok (.if_icmp .eq 5, 3) := by decide +kernel
theorem dL_law_518 : decode cL_law 518 = .ok (.iconst 0, 1) := by decide +kernel
theorem dL_law_519 : decode cL_law 519 = .ok (.ireturn, 1) := by decide +kernel
theorem dL_law_520 : decode cL_law 520 = .ok (.iload 6, 2) := by decide +kernel
theorem dL_law_522 : decode cL_law 522 = .ok (.ifCond .ne 15, 3) := by decide +kernel
theorem dL_law_525 : decode cL_law 525 = .ok (.aload_n 3, 1) := by decide +kernel
theorem dL_law_526 : decode cL_law 526 = .ok (.iconst 0, 1) := by decide +kernel
theorem dL_law_527 : decode cL_law 527 = .ok (.laload, 1) := by decide +kernel
theorem dL_law_528 : decode cL_law 528 = .ok (.iload 7, 2) := by decide +kernel
theorem dL_law_530 : decode cL_law 530 = .ok (.i2l, 1) := by decide +kernel
theorem dL_law_531 : decode cL_law 531 = .ok (.lcmp, 1) := by decide +kernel
theorem dL_law_532 : decode cL_law 532 = .ok (.ifCond .eq 5, 3) := by decide +kernel
theorem dL_law_535 : decode cL_law 535 = .ok (.iconst 0, 1) := by decide +kernel
theorem dL_law_536 : decode cL_law 536 = .ok (.ireturn, 1) := by decide +kernel
theorem dL_law_537 : decode cL_law 537 = .ok (.goto 1582, 3) := by decide +kernel
theorem dL_law_540 : decode cL_law 540 = .ok (.aload_n 1, 1) := by decide +kernel
theorem dL_law_541 : decode cL_law 541 = .ok (.aload_n 0, 1) := by decide +kernel
theorem dL_law_542 : decode cL_law 542 = .ok (.iload 5, 2) := by decide +kernel
theorem dL_law_544 : decode cL_law 544 = .ok (.iconst 1, 1) := by decide +kernel
theorem dL_law_545 : decode cL_law 545 = .ok (.iadd, 1) := by decide +kernel
theorem dL_law_546 : decode cL_law 546 = .ok (.iaload, 1) := by decide +kernel
theorem dL_law_547 : decode cL_law 547 = .ok (.aload_n 3, 1) := by decide +kernel
theorem dL_law_548 : decode cL_law 548 = .ok (.invokestatic 150, 3) := by decide +kernel
theorem dL_law_551 : decode cL_law 551 = .ok (.istore 6, 2) := by decide +kernel
theorem dL_law_553 : decode cL_law 553 = .ok (.aload_n 2, 1) := by decide +kernel
theorem dL_law_554 : decode cL_law 554 = .ok (.aload_n 0, 1) := by decide +kernel
theorem dL_law_555 : decode cL_law 555 = .ok (.iload 5, 2) := by decide +kernel
theorem dL_law_557 : decode cL_law 557 = .ok (.iconst 1, 1) := by decide +kernel
theorem dL_law_558 : decode cL_law 558 = .ok (.iadd, 1) := by decide +kernel
theorem dL_law_559 : decode cL_law 559 = .ok (.iaload, 1) := by decide +kernel
theorem dL_law_560 : decode cL_law 560 = .ok (.invokevirtual 152, 3) := by decide +kernel
theorem dL_law_563 : decode cL_law 563 = .ok (.istore 7, 2) := by decide +kernel
theorem dL_law_565 : decode cL_law 565 = .ok (.aload_n 2, 1) := by decide +kernel
theorem dL_law_566 : decode cL_law 566 = .ok (.invokevirtual 130, 3) := by decide +kernel
theorem dL_law_569 : decode cL_law 569 = .ok (.iload 6, 2) := by decide +kernel
theorem dL_law_571 : decode cL_law 571 = .ok (.if_icmp .eq 5, 3) := by decide +kernel
theorem dL_law_574 : decode cL_law 574 = .ok (.iconst 0, 1) := by decide +kernel
theorem dL_law_575 : decode cL_law 575 = .ok (.ireturn, 1) := by decide +kernel
theorem dL_law_576 : decode cL_law 576 = .ok (.iload 6, 2) := by decide +kernel
theorem dL_law_578 : decode cL_law 578 = .ok (.ifCond .ne 15, 3) := by decide +kernel
theorem dL_law_581 : decode cL_law 581 = .ok (.aload_n 3, 1) := by decide +kernel
theorem dL_law_582 : decode cL_law 582 = .ok (.iconst 0, 1) := by decide +kernel
theorem dL_law_583 : decode cL_law 583 = .ok (.laload, 1) := by decide +kernel
theorem dL_law_584 : decode cL_law 584 = .ok (.iload 7, 2) := by decide +kernel
theorem dL_law_586 : decode cL_law 586 = .ok (.i2l, 1) := by decide +kernel
theorem dL_law_587 : decode cL_law 587 = .ok (.lcmp, 1) := by decide +kernel
theorem dL_law_588 : decode cL_law 588 = .ok (.ifCond .eq 5, 3) := by decide +kernel
theorem dL_law_591 : decode cL_law 591 = .ok (.iconst 0, 1) := by decide +kernel
theorem dL_law_592 : decode cL_law 592 = .ok (.ireturn, 1) := by decide +kernel
theorem dL_law_593 : decode cL_law 593 = .ok (.goto 1526, 3) := by decide +kernel
theorem dL_law_596 : decode cL_law 596 = .ok (.aload_n 1, 1) := by decide +kernel
theorem dL_law_597 : decode cL_law 597 = .ok (.aload_n 0, 1) := by decide +kernel
theorem dL_law_598 : decode cL_law 598 = .ok (.iload 5, 2) := by decide +kernel
theorem dL_law_600 : decode cL_law 600 = .ok (.iconst 1, 1) := by decide +kernel
theorem dL_law_601 : decode cL_law 601 = .ok (.iadd, 1) := by decide +kernel
theorem dL_law_602 : decode cL_law 602 = .ok (.iaload, 1) := by decide +kernel
theorem dL_law_603 : decode cL_law 603 = .ok (.aload_n 3, 1) := by decide +kernel
theorem dL_law_604 : decode cL_law 604 = .ok (.invokestatic 153, 3) := by decide +kernel
theorem dL_law_607 : decode cL_law 607 = .ok (.istore 6, 2) := by decide +kernel
theorem dL_law_609 : decode cL_law 609 = .ok (.aload_n 2, 1) := by decide +kernel
theorem dL_law_610 : decode cL_law 610 = .ok (.aload_n 0, 1) := by decide +kernel
theorem dL_law_611 : decode cL_law 611 = .ok (.iload 5, 2) := by decide +kernel
theorem dL_law_613 : decode cL_law 613 = .ok (.iconst 1, 1) := by decide +kernel
theorem dL_law_614 : decode cL_law 614 = .ok (.iadd, 1) := by decide +kernel
theorem dL_law_615 : decode cL_law 615 = .ok (.iaload, 1) := by decide +kernel
theorem dL_law_616 : decode cL_law 616 = .ok (.invokevirtual 155, 3) := by decide +kernel
theorem dL_law_619 : decode cL_law 619 = .ok (.istore 7, 2) := by decide +kernel
theorem dL_law_621 : decode cL_law 621 = .ok (.aload_n 2, 1) := by decide +kernel
theorem dL_law_622 : decode cL_law 622 = .ok (.invokevirtual 130, 3) := by decide +kernel
theorem dL_law_625 : decode cL_law 625 = .ok (.iload 6, 2) := by decide +kernel
theorem dL_law_627 : decode cL_law 627 = .ok (.if_icmp .eq 5, 3) := by decide +kernel
theorem dL_law_630 : decode cL_law 630 = .ok (.iconst 0, 1) := by decide +kernel
theorem dL_law_631 : decode cL_law 631 = .ok (.ireturn, 1) := by decide +kernel
theorem dL_law_632 : decode cL_law 632 = .ok (.iload 6, 2) := by decide +kernel
theorem dL_law_634 : decode cL_law 634 = .ok (.ifCond .ne 15, 3) := by decide +kernel
theorem dL_law_637 : decode cL_law 637 = .ok (.aload_n 3, 1) := by decide +kernel
theorem dL_law_638 : decode cL_law 638 = .ok (.iconst 0, 1) := by decide +kernel
theorem dL_law_639 : decode cL_law 639 = .ok (.laload, 1) := by decide +kernel
theorem dL_law_640 : decode cL_law 640 = .ok (.iload 7, 2) := by decide +kernel
theorem dL_law_642 : decode cL_law 642 = .ok (.i2l, 1) := by decide +kernel
theorem dL_law_643 : decode cL_law 643 = .ok (.lcmp, 1) := by decide +kernel
theorem dL_law_644 : decode cL_law 644 = .ok (.ifCond .eq 5, 3) := by decide +kernel
theorem dL_law_647 : decode cL_law 647 = .ok (.iconst 0, 1) := by decide +kernel
theorem dL_law_648 : decode cL_law 648 = .ok (.ireturn, 1) := by decide +kernel
theorem dL_law_649 : decode cL_law 649 = .ok (.goto 1470, 3) := by decide +kernel
theorem dL_law_652 : decode cL_law 652 = .ok (.aload_n 1, 1) := by decide +kernel
theorem dL_law_653 : decode cL_law 653 = .ok (.aload_n 0, 1) := by decide +kernel
theorem dL_law_654 : decode cL_law 654 = .ok (.iload 5, 2) := by decide +kernel
theorem dL_law_656 : decode cL_law 656 = .ok (.iconst 1, 1) := by decide +kernel
theorem dL_law_657 : decode cL_law 657 = .ok (.iadd, 1) := by decide +kernel
theorem dL_law_658 : decode cL_law 658 = .ok (.iaload, 1) := by decide +kernel
theorem dL_law_659 : decode cL_law 659 = .ok (.aload_n 3, 1) := by decide +kernel
theorem dL_law_660 : decode cL_law 660 = .ok (.invokestatic 156, 3) := by decide +kernel
theorem dL_law_663 : decode cL_law 663 = .ok (.istore 6, 2) := by decide +kernel
theorem dL_law_665 : decode cL_law 665 = .ok (.aload_n 2, 1) := by decide +kernel
theorem dL_law_666 : decode cL_law 666 = .ok (.aload_n 0, 1) := by decide +kernel
theorem dL_law_667 : decode cL_law 667 = .ok (.iload 5, 2) := by decide +kernel
theorem dL_law_669 : decode cL_law 669 = .ok (.iconst 1, 1) := by decide +kernel
theorem dL_law_670 : decode cL_law 670 = .ok (.iadd, 1) := by decide +kernel
theorem dL_law_671 : decode cL_law 671 = .ok (.iaload, 1) := by decide +kernel
theorem dL_law_672 : decode cL_law 672 = .ok (.invokevirtual 158, 3) := by decide +kernel
theorem dL_law_675 : decode cL_law 675 = .ok (.istore 7, 2) := by decide +kernel
theorem dL_law_677 : decode cL_law 677 = .ok (.aload_n 2, 1) := by decide +kernel
theorem dL_law_678 : decode cL_law 678 = .ok (.invokevirtual 130, 3) := by decide +kernel
theorem dL_law_681 : decode cL_law 681 = .ok (.iload 6, 2) := by decide +kernel
theorem dL_law_683 : decode cL_law 683 = .ok (.if_icmp .eq 5, 3) := by decide +kernel
theorem dL_law_686 : decode cL_law 686 = .ok (.iconst 0, 1) := by decide +kernel
theorem dL_law_687 : decode cL_law 687 = .ok (.ireturn, 1) := by decide +kernel
theorem dL_law_688 : decode cL_law 688 = .ok (.iload 6, 2) := by decide +kernel
theorem dL_law_690 : decode cL_law 690 = .ok (.ifCond .ne 15, 3) := by decide +kernel
theorem dL_law_693 : decode cL_law 693 = .ok (.aload_n 3, 1) := by decide +kernel
theorem dL_law_694 : decode cL_law 694 = .ok (.iconst 0, 1) := by decide +kernel
theorem dL_law_695 : decode cL_law 695 = .ok (.laload, 1) := by decide +kernel
theorem dL_law_696 : decode cL_law 696 = .ok (.iload 7, 2) := by decide +kernel
theorem dL_law_698 : decode cL_law 698 = .ok (.i2l, 1) := by decide +kernel
theorem dL_law_699 : decode cL_law 699 = .ok (.lcmp, 1) := by decide +kernel
theorem dL_law_700 : decode cL_law 700 = .ok (.ifCond .eq 5, 3) := by decide +kernel
theorem dL_law_703 : decode cL_law 703 = .ok (.iconst 0, 1) := by decide +kernel
theorem dL_law_704 : decode cL_law 704 = .ok (.ireturn, 1) := by decide +kernel
theorem dL_law_705 : decode cL_law 705 = .ok (.goto 1414, 3) := by decide +kernel
theorem dL_law_708 : decode cL_law 708 = .ok (.aload_n 1, 1) := by decide +kernel
theorem dL_law_709 : decode cL_law 709 = .ok (.aload_n 3, 1) := by decide +kernel
theorem dL_law_710 : decode cL_law 710 = .ok (.invokestatic 159, 3) := by decide +kernel
theorem dL_law_713 : decode cL_law 713 = .ok (.istore 6, 2) := by decide +kernel
theorem dL_law_715 : decode cL_law 715 = .ok (.aload_n 2, 1) := by decide +kernel
theorem dL_law_716 : decode cL_law 716 = .ok (.invokevirtual 162, 3) := by decide +kernel
theorem dL_law_719 : decode cL_law 719 = .ok (.istore 7, 2) := by decide +kernel
theorem dL_law_721 : decode cL_law 721 = .ok (.aload_n 2, 1) := by decide +kernel
theorem dL_law_722 : decode cL_law 722 = .ok (.invokevirtual 130, 3) := by decide +kernel
theorem dL_law_725 : decode cL_law 725 = .ok (.iload 6, 2) := by decide +kernel
theorem dL_law_727 : decode cL_law 727 = .ok (.if_icmp .eq 5, 3) := by decide +kernel
theorem dL_law_730 : decode cL_law 730 = .ok (.iconst 0, 1) := by decide +kernel
theorem dL_law_731 : decode cL_law 731 = .ok (.ireturn, 1) := by decide +kernel
theorem dL_law_732 : decode cL_law 732 = .ok (.iload 6, 2) := by decide +kernel
theorem dL_law_734 : decode cL_law 734 = .ok (.ifCond .ne 15, 3) := by decide +kernel
theorem dL_law_737 : decode cL_law 737 = .ok (.aload_n 3, 1) := by decide +kernel
theorem dL_law_738 : decode cL_law 738 = .ok (.iconst 0, 1) := by decide +kernel
theorem dL_law_739 : decode cL_law 739 = .ok (.laload, 1) := by decide +kernel
theorem dL_law_740 : decode cL_law 740 = .ok (.iload 7, 2) := by decide +kernel
theorem dL_law_742 : decode cL_law 742 = .ok (.i2l, 1) := by decide +kernel
theorem dL_law_743 : decode cL_law 743 = .ok (.lcmp, 1) := by decide +kernel
theorem dL_law_744 : decode cL_law 744 = .ok (.ifCond .eq 5, 3) := by decide +kernel
theorem dL_law_747 : decode cL_law 747 = .ok (.iconst 0, 1) := by decide +kernel
theorem dL_law_748 : decode cL_law 748 = .ok (.ireturn, 1) := by decide +kernel
theorem dL_law_749 : decode cL_law 749 = .ok (.goto 1370, 3) := by decide +kernel
theorem dL_law_752 : decode cL_law 752 = .ok (.aload_n 1, 1) := by decide +kernel
theorem dL_law_753 : decode cL_law 753 = .ok (.aload_n 0, 1) := by decide +kernel
theorem dL_law_754 : decode cL_law 754 = .ok (.iload 5, 2) := by decide +kernel
theorem dL_law_756 : decode cL_law 756 = .ok (.iconst 1, 1) := by decide +kernel
theorem dL_law_757 : decode cL_law 757 = .ok (.iadd, 1) := by decide +kernel
theorem dL_law_758 : decode cL_law 758 = .ok (.iaload, 1) := by decide +kernel
theorem dL_law_759 : decode cL_law 759 = .ok (.aload_n 3, 1) := by decide +kernel
theorem dL_law_760 : decode cL_law 760 = .ok (.invokestatic 163, 3) := by decide +kernel
theorem dL_law_763 : decode cL_law 763 = .ok (.istore 6, 2) := by decide +kernel
theorem dL_law_765 : decode cL_law 765 = .ok (.aload_n 2, 1) := by decide +kernel
theorem dL_law_766 : decode cL_law 766 = .ok (.aload_n 0, 1) := by decide +kernel
theorem dL_law_767 : decode cL_law 767 = .ok (.iload 5, 2) := by decide +kernel
theorem dL_law_769 : decode cL_law 769 = .ok (.iconst 1, 1) := by decide +kernel
theorem dL_law_770 : decode cL_law 770 = .ok (.iadd, 1) := by decide +kernel
theorem dL_law_771 : decode cL_law 771 = .ok (.iaload, 1) := by decide +kernel
theorem dL_law_772 : decode cL_law 772 = .ok (.invokevirtual 165, 3) := by decide +kernel
theorem dL_law_775 : decode cL_law 775 = .ok (.istore 7, 2) := by decide +kernel
theorem dL_law_777 : decode cL_law 777 = .ok (.aload_n 2, 1) := by decide +kernel
theorem dL_law_778 : decode cL_law 778 = .ok (.invokevirtual 130, 3) := by decide +kernel
theorem dL_law_781 : decode cL_law 781 = .ok (.iload 6, 2) := by decide +kernel
theorem dL_law_783 : decode cL_law 783 = .ok (.if_icmp .eq 5, 3) := by decide +kernel
theorem dL_law_786 : decode cL_law 786 = .ok (.iconst 0, 1) := by decide +kernel
theorem dL_law_787 : decode cL_law 787 = .ok (.ireturn, 1) := by decide +kernel
theorem dL_law_788 : decode cL_law 788 = .ok (.iload 6, 2) := by decide +kernel
theorem dL_law_790 : decode cL_law 790 = .ok (.ifCond .ne 15, 3) := by decide +kernel
theorem dL_law_793 : decode cL_law 793 = .ok (.aload_n 3, 1) := by decide +kernel
theorem dL_law_794 : decode cL_law 794 = .ok (.iconst 0, 1) := by decide +kernel
theorem dL_law_795 : decode cL_law 795 = .ok (.laload, 1) := by decide +kernel
theorem dL_law_796 : decode cL_law 796 = .ok (.iload 7, 2) := by decide +kernel
theorem dL_law_798 : decode cL_law 798 = .ok (.i2l, 1) := by decide +kernel
theorem dL_law_799 : decode cL_law 799 = .ok (.lcmp, 1) := by decide +kernel
theorem dL_law_800 : decode cL_law 800 = .ok (.ifCond .eq 5, 3) := by decide +kernel
theorem dL_law_803 : decode cL_law 803 = .ok (.iconst 0, 1) := by decide +kernel
theorem dL_law_804 : decode cL_law 804 = .ok (.ireturn, 1) := by decide +kernel
theorem dL_law_805 : decode cL_law 805 = .ok (.goto 1314, 3) := by decide +kernel
theorem dL_law_808 : decode cL_law 808 = .ok (.aload_n 1, 1) := by decide +kernel
theorem dL_law_809 : decode cL_law 809 = .ok (.aload_n 0, 1) := by decide +kernel
theorem dL_law_810 : decode cL_law 810 = .ok (.iload 5, 2) := by decide +kernel
theorem dL_law_812 : decode cL_law 812 = .ok (.iconst 1, 1) := by decide +kernel
theorem dL_law_813 : decode cL_law 813 = .ok (.iadd, 1) := by decide +kernel
theorem dL_law_814 : decode cL_law 814 = .ok (.iaload, 1) := by decide +kernel
theorem dL_law_815 : decode cL_law 815 = .ok (.aload_n 3, 1) := by decide +kernel
theorem dL_law_816 : decode cL_law 816 = .ok (.invokestatic 166, 3) := by decide +kernel
theorem dL_law_819 : decode cL_law 819 = .ok (.istore 6, 2) := by decide +kernel
theorem dL_law_821 : decode cL_law 821 = .ok (.aload_n 2, 1) := by decide +kernel
theorem dL_law_822 : decode cL_law 822 = .ok (.aload_n 0, 1) := by decide +kernel
theorem dL_law_823 : decode cL_law 823 = .ok (.iload 5, 2) := by decide +kernel
theorem dL_law_825 : decode cL_law 825 = .ok (.iconst 1, 1) := by decide +kernel
theorem dL_law_826 : decode cL_law 826 = .ok (.iadd, 1) := by decide +kernel
theorem dL_law_827 : decode cL_law 827 = .ok (.iaload, 1) := by decide +kernel
theorem dL_law_828 : decode cL_law 828 = .ok (.invokevirtual 168, 3) := by decide +kernel
theorem dL_law_831 : decode cL_law 831 = .ok (.istore 7, 2) := by decide +kernel
theorem dL_law_833 : decode cL_law 833 = .ok (.aload_n 2, 1) := by decide +kernel
theorem dL_law_834 : decode cL_law 834 = .ok (.invokevirtual 130, 3) := by decide +kernel
theorem dL_law_837 : decode cL_law 837 = .ok (.iload 6, 2) := by decide +kernel
theorem dL_law_839 : decode cL_law 839 = .ok (.if_icmp .eq 5, 3) := by decide +kernel
theorem dL_law_842 : decode cL_law 842 = .ok (.iconst 0, 1) := by decide +kernel
theorem dL_law_843 : decode cL_law 843 = .ok (.ireturn, 1) := by decide +kernel
theorem dL_law_844 : decode cL_law 844 = .ok (.iload 6, 2) := by decide +kernel
theorem dL_law_846 : decode cL_law 846 = .ok (.ifCond .ne 15, 3) := by decide +kernel
theorem dL_law_849 : decode cL_law 849 = .ok (.aload_n 3, 1) := by decide +kernel
theorem dL_law_850 : decode cL_law 850 = .ok (.iconst 0, 1) := by decide +kernel
theorem dL_law_851 : decode cL_law 851 = .ok (.laload, 1) := by decide +kernel
theorem dL_law_852 : decode cL_law 852 = .ok (.iload 7, 2) := by decide +kernel
theorem dL_law_854 : decode cL_law 854 = .ok (.i2l, 1) := by decide +kernel
theorem dL_law_855 : decode cL_law 855 = .ok (.lcmp, 1) := by decide +kernel
theorem dL_law_856 : decode cL_law 856 = .ok (.ifCond .eq 5, 3) := by decide +kernel
theorem dL_law_859 : decode cL_law 859 = .ok (.iconst 0, 1) := by decide +kernel
theorem dL_law_860 : decode cL_law 860 = .ok (.ireturn, 1) := by decide +kernel
theorem dL_law_861 : decode cL_law 861 = .ok (.goto 1258, 3) := by decide +kernel
theorem dL_law_864 : decode cL_law 864 = .ok (.aload_n 1, 1) := by decide +kernel
theorem dL_law_865 : decode cL_law 865 = .ok (.invokevirtual 169, 3) := by decide +kernel
theorem dL_law_868 : decode cL_law 868 = .ok (.aload_n 2, 1) := by decide +kernel
theorem dL_law_869 : decode cL_law 869 = .ok (.invokevirtual 172, 3) := by decide +kernel
theorem dL_law_872 : decode cL_law 872 = .ok (.if_icmp .eq 1247, 3) := by decide +kernel
theorem dL_law_875 : decode cL_law 875 = .ok (.iconst 0, 1) := by decide +kernel
theorem dL_law_876 : decode cL_law 876 = .ok (.ireturn, 1) := by decide +kernel
theorem dL_law_877 : decode cL_law 877 = .ok (.aload_n 1, 1) := by decide +kernel
theorem dL_law_878 : decode cL_law 878 = .ok (.aload_n 3, 1) := by decide +kernel
theorem dL_law_879 : decode cL_law 879 = .ok (.invokestatic 173, 3) := by decide +kernel
theorem dL_law_882 : decode cL_law 882 = .ok (.istore 6, 2) := by decide +kernel
theorem dL_law_884 : decode cL_law 884 = .ok (.aload_n 2, 1) := by decide +kernel
theorem dL_law_885 : decode cL_law 885 = .ok (.invokevirtual 175, 3) := by decide +kernel
theorem dL_law_888 : decode cL_law 888 = .ok (.istore 7, 2) := by decide +kernel
theorem dL_law_890 : decode cL_law 890 = .ok (.aload_n 2, 1) := by decide +kernel
theorem dL_law_891 : decode cL_law 891 = .ok (.invokevirtual 130, 3) := by decide +kernel
theorem dL_law_894 : decode cL_law 894 = .ok (.iload 6, 2) := by decide +kernel
theorem dL_law_896 : decode cL_law 896 = .ok (.if_icmp .eq 5, 3) := by decide +kernel
theorem dL_law_899 : decode cL_law 899 = .ok (.iconst 0, 1) := by decide +kernel
theorem dL_law_900 : decode cL_law 900 = .ok (.ireturn, 1) := by decide +kernel
theorem dL_law_901 : decode cL_law 901 = .ok (.iload 6, 2) := by decide +kernel
theorem dL_law_903 : decode cL_law 903 = .ok (.ifCond .ne 15, 3) := by decide +kernel
theorem dL_law_906 : decode cL_law 906 = .ok (.aload_n 3, 1) := by decide +kernel
theorem dL_law_907 : decode cL_law 907 = .ok (.iconst 0, 1) := by decide +kernel
theorem dL_law_908 : decode cL_law 908 = .ok (.laload, 1) := by decide +kernel
theorem dL_law_909 : decode cL_law 909 = .ok (.iload 7, 2) := by decide +kernel
theorem dL_law_911 : decode cL_law 911 = .ok (.i2l, 1) := by decide +kernel
theorem dL_law_912 : decode cL_law 912 = .ok (.lcmp, 1) := by decide +kernel
theorem dL_law_913 : decode cL_law 913 = .ok (.ifCond .eq 5, 3) := by decide +kernel
theorem dL_law_916 : decode cL_law 916 = .ok (.iconst 0, 1) := by decide +kernel
theorem dL_law_917 : decode cL_law 917 = .ok (.ireturn, 1) := by decide +kernel
theorem dL_law_918 : decode cL_law 918 = .ok (.goto 1201, 3) := by decide +kernel
theorem dL_law_921 : decode cL_law 921 = .ok (.aload_n 1, 1) := by decide +kernel
theorem dL_law_922 : decode cL_law 922 = .ok (.aload_n 0, 1) := by decide +kernel
theorem dL_law_923 : decode cL_law 923 = .ok (.iload 5, 2) := by decide +kernel
theorem dL_law_925 : decode cL_law 925 = .ok (.iconst 1, 1) := by decide +kernel
theorem dL_law_926 : decode cL_law 926 = .ok (.iadd, 1) := by decide +kernel
theorem dL_law_927 : decode cL_law 927 = .ok (.iaload, 1) := by decide +kernel
theorem dL_law_928 : decode cL_law 928 = .ok (.aload_n 0, 1) := by decide +kernel
theorem dL_law_929 : decode cL_law 929 = .ok (.iload 5, 2) := by decide +kernel
theorem dL_law_931 : decode cL_law 931 = .ok (.iconst 2, 1) := by decide +kernel
theorem dL_law_932 : decode cL_law 932 = .ok (.iadd, 1) := by decide +kernel
theorem dL_law_933 : decode cL_law 933 = .ok (.iaload, 1) := by decide +kernel
theorem dL_law_934 : decode cL_law 934 = .ok (.i2c, 1) := by decide +kernel
theorem dL_law_935 : decode cL_law 935 = .ok (.aload_n 0, 1) := by decide +kernel
theorem dL_law_936 : decode cL_law 936 = .ok (.iload 5, 2) := by decide +kernel
theorem dL_law_938 : decode cL_law 938 = .ok (.iconst 3, 1) := by decide +kernel
theorem dL_law_939 : decode cL_law 939 = .ok (.iadd, 1) := by decide +kernel
theorem dL_law_940 : decode cL_law 940 = .ok (.iaload, 1) := by decide +kernel
theorem dL_law_941 : decode cL_law 941 = .ok (.aload_n 3, 1) := by decide +kernel
theorem dL_law_942 : decode cL_law 942 = .ok (.invokestatic 176, 3) := by decide +kernel
theorem dL_law_945 : decode cL_law 945 = .ok (.istore 6, 2) := by decide +kernel
theorem dL_law_947 : decode cL_law 947 = .ok (.aload_n 2, 1) := by decide +kernel
theorem dL_law_948 : decode cL_law 948 = .ok (.aload_n 0, 1) := by decide +kernel
theorem dL_law_949 : decode cL_law 949 = .ok (.iload 5, 2) := by decide +kernel
theorem dL_law_951 : decode cL_law 951 = .ok (.iconst 1, 1) := by decide +kernel
theorem dL_law_952 : decode cL_law 952 = .ok (.iadd, 1) := by decide +kernel
theorem dL_law_953 : decode cL_law 953 = .ok (.iaload, 1) := by decide +kernel
theorem dL_law_954 : decode cL_law 954 = .ok (.aload_n 0, 1) := by decide +kernel
theorem dL_law_955 : decode cL_law 955 = .ok (.iload 5, 2) := by decide +kernel
theorem dL_law_957 : decode cL_law 957 = .ok (.iconst 2, 1) := by decide +kernel
theorem dL_law_958 : decode cL_law 958 = .ok (.iadd, 1) := by decide +kernel
theorem dL_law_959 : decode cL_law 959 = .ok (.iaload, 1) := by decide +kernel
theorem dL_law_960 : decode cL_law 960 = .ok (.i2c, 1) := by decide +kernel
theorem dL_law_961 : decode cL_law 961 = .ok (.aload_n 0, 1) := by decide +kernel
theorem dL_law_962 : decode cL_law 962 = .ok (.iload 5, 2) := by decide +kernel
theorem dL_law_964 : decode cL_law 964 = .ok (.iconst 3, 1) := by decide +kernel
theorem dL_law_965 : decode cL_law 965 = .ok (.iadd, 1) := by decide +kernel
theorem dL_law_966 : decode cL_law 966 = .ok (.iaload, 1) := by decide +kernel
theorem dL_law_967 : decode cL_law 967 = .ok (.invokevirtual 179, 3) := by decide +kernel
theorem dL_law_970 : decode cL_law 970 = .ok (.istore 7, 2) := by decide +kernel
theorem dL_law_972 : decode cL_law 972 = .ok (.aload_n 2, 1) := by decide +kernel
theorem dL_law_973 : decode cL_law 973 = .ok (.invokevirtual 130, 3) := by decide +kernel
theorem dL_law_976 : decode cL_law 976 = .ok (.iload 6, 2) := by decide +kernel
theorem dL_law_978 : decode cL_law 978 = .ok (.if_icmp .eq 5, 3) := by decide +kernel
theorem dL_law_981 : decode cL_law 981 = .ok (.iconst 0, 1) := by decide +kernel
theorem dL_law_982 : decode cL_law 982 = .ok (.ireturn, 1) := by decide +kernel
theorem dL_law_983 : decode cL_law 983 = .ok (.iload 6, 2) := by decide +kernel
theorem dL_law_985 : decode cL_law 985 = .ok (.ifCond .ne 15, 3) := by decide +kernel
theorem dL_law_988 : decode cL_law 988 = .ok (.aload_n 3, 1) := by decide +kernel
theorem dL_law_989 : decode cL_law 989 = .ok (.iconst 0, 1) := by decide +kernel
theorem dL_law_990 : decode cL_law 990 = .ok (.laload, 1) := by decide +kernel
theorem dL_law_991 : decode cL_law 991 = .ok (.iload 7, 2) := by decide +kernel
theorem dL_law_993 : decode cL_law 993 = .ok (.i2l, 1) := by decide +kernel
theorem dL_law_994 : decode cL_law 994 = .ok (.lcmp, 1) := by decide +kernel
theorem dL_law_995 : decode cL_law 995 = .ok (.ifCond .eq 5, 3) := by decide +kernel
theorem dL_law_998 : decode cL_law 998 = .ok (.iconst 0, 1) := by decide +kernel
theorem dL_law_999 : decode cL_law 999 = .ok (.ireturn, 1) := by decide +kernel
theorem dL_law_1000 : decode cL_law 1000 = .ok (.goto 1119, 3) := by decide +kernel
theorem dL_law_1003 : decode cL_law 1003 = .ok (.aload_n 1, 1) := by decide +kernel
theorem dL_law_1004 : decode cL_law 1004 = .ok (.aload_n 0, 1) := by decide +kernel
theorem dL_law_1005 : decode cL_law 1005 = .ok (.iload 5, 2) := by decide +kernel
theorem dL_law_1007 : decode cL_law 1007 = .ok (.iconst 1, 1) := by decide +kernel
theorem dL_law_1008 : decode cL_law 1008 = .ok (.iadd, 1) := by decide +kernel
theorem dL_law_1009 : decode cL_law 1009 = .ok (.iaload, 1) := by decide +kernel
theorem dL_law_1010 : decode cL_law 1010 = .ok (.aload_n 3, 1) := by decide +kernel
theorem dL_law_1011 : decode cL_law 1011 = .ok (.invokestatic 180, 3) := by decide +kernel
theorem dL_law_1014 : decode cL_law 1014 = .ok (.istore 6, 2) := by decide +kernel
theorem dL_law_1016 : decode cL_law 1016 = .ok (.aload_n 2, 1) := by decide +kernel
theorem dL_law_1017 : decode cL_law 1017 = .ok (.aload_n 0, 1) := by decide +kernel
theorem dL_law_1018 : decode cL_law 1018 = .ok (.iload 5, 2) := by decide +kernel
theorem dL_law_1020 : decode cL_law 1020 = .ok (.iconst 1, 1) := by decide +kernel
theorem dL_law_1021 : decode cL_law 1021 = .ok (.iadd, 1) := by decide +kernel
theorem dL_law_1022 : decode cL_law 1022 = .ok (.iaload, 1) := by decide +kernel
theorem dL_law_1023 : decode cL_law 1023 = .ok (.invokevirtual 182, 3) := by decide +kernel
theorem dL_law_1026 : decode cL_law 1026 = .ok (.istore 7, 2) := by decide +kernel
theorem dL_law_1028 : decode cL_law 1028 = .ok (.aload_n 2, 1) := by decide +kernel
theorem dL_law_1029 : decode cL_law 1029 = .ok (.invokevirtual 130, 3) := by decide +kernel
theorem dL_law_1032 : decode cL_law 1032 = .ok (.iload 6, 2) := by decide +kernel
theorem dL_law_1034 : decode cL_law 1034 = .ok (.if_icmp .eq 5, 3) := by decide +kernel
theorem dL_law_1037 : decode cL_law 1037 = .ok (.iconst 0, 1) := by decide +kernel
theorem dL_law_1038 : decode cL_law 1038 = .ok (.ireturn, 1) := by decide +kernel
theorem dL_law_1039 : decode cL_law 1039 = .ok (.iload 6, 2) := by decide +kernel
theorem dL_law_1041 : decode cL_law 1041 = .ok (.ifCond .ne 15, 3) := by decide +kernel
theorem dL_law_1044 : decode cL_law 1044 = .ok (.aload_n 3, 1) := by decide +kernel
theorem dL_law_1045 : decode cL_law 1045 = .ok (.iconst 0, 1) := by decide +kernel
theorem dL_law_1046 : decode cL_law 1046 = .ok (.laload, 1) := by decide +kernel
theorem dL_law_1047 : decode cL_law 1047 = .ok (.iload 7, 2) := by decide +kernel
theorem dL_law_1049 : decode cL_law 1049 = .ok (.i2l, 1) := by decide +kernel
theorem dL_law_1050 : decode cL_law 1050 = .ok (.lcmp, 1) := by decide +kernel
theorem dL_law_1051 : decode cL_law 1051 = .ok (.ifCond .eq 5, 3) := by decide +kernel
theorem dL_law_1054 : decode cL_law 1054 = .ok (.iconst 0, 1) := by decide +kernel
theorem dL_law_1055 : decode cL_law 1055 = .ok (.ireturn, 1) := by decide +kernel
theorem dL_law_1056 : decode cL_law 1056 = .ok (.goto 1063, 3) := by decide +kernel
theorem dL_law_1059 : decode cL_law 1059 = .ok (.aload_n 1, 1) := by decide +kernel
theorem dL_law_1060 : decode cL_law 1060 = .ok (.aload_n 0, 1) := by decide +kernel
theorem dL_law_1061 : decode cL_law 1061 = .ok (.iload 5, 2) := by decide +kernel
theorem dL_law_1063 : decode cL_law 1063 = .ok (.iconst 1, 1) := by decide +kernel
theorem dL_law_1064 : decode cL_law 1064 = .ok (.iadd, 1) := by decide +kernel
theorem dL_law_1065 : decode cL_law 1065 = .ok (.iaload, 1) := by decide +kernel
theorem dL_law_1066 : decode cL_law 1066 = .ok (.aload_n 3, 1) := by decide +kernel
theorem dL_law_1067 : decode cL_law 1067 = .ok (.invokestatic 183, 3) := by decide +kernel
theorem dL_law_1070 : decode cL_law 1070 = .ok (.istore 6, 2) := by decide +kernel
theorem dL_law_1072 : decode cL_law 1072 = .ok (.aload_n 2, 1) := by decide +kernel
theorem dL_law_1073 : decode cL_law 1073 = .ok (.aload_n 0, 1) := by decide +kernel
theorem dL_law_1074 : decode cL_law 1074 = .ok (.iload 5, 2) := by decide +kernel
theorem dL_law_1076 : decode cL_law 1076 = .ok (.iconst 1, 1) := by decide +kernel
theorem dL_law_1077 : decode cL_law 1077 = .ok (.iadd, 1) := by decide +kernel
theorem dL_law_1078 : decode cL_law 1078 = .ok (.iaload, 1) := by decide +kernel
theorem dL_law_1079 : decode cL_law 1079 = .ok (.invokevirtual 185, 3) := by decide +kernel
theorem dL_law_1082 : decode cL_law 1082 = .ok (.istore 7, 2) := by decide +kernel
theorem dL_law_1084 : decode cL_law 1084 = .ok (.aload_n 2, 1) := by decide +kernel
theorem dL_law_1085 : decode cL_law 1085 = .ok (.invokevirtual 130, 3) := by decide +kernel
theorem dL_law_1088 : decode cL_law 1088 = .ok (.iload 6, 2) := by decide +kernel
theorem dL_law_1090 : decode cL_law 1090 = .ok (.if_icmp .eq 5, 3) := by decide +kernel
theorem dL_law_1093 : decode cL_law 1093 = .ok (.iconst 0, 1) := by decide +kernel
theorem dL_law_1094 : decode cL_law 1094 = .ok (.ireturn, 1) := by decide +kernel
theorem dL_law_1095 : decode cL_law 1095 = .ok (.iload 6, 2) := by decide +kernel
theorem dL_law_1097 : decode cL_law 1097 = .ok (.ifCond .ne 15, 3) := by decide +kernel
theorem dL_law_1100 : decode cL_law 1100 = .ok (.aload_n 3, 1) := by decide +kernel
theorem dL_law_1101 : decode cL_law 1101 = .ok (.iconst 0, 1) := by decide +kernel
theorem dL_law_1102 : decode cL_law 1102 = .ok (.laload, 1) := by decide +kernel
theorem dL_law_1103 : decode cL_law 1103 = .ok (.iload 7, 2) := by decide +kernel
theorem dL_law_1105 : decode cL_law 1105 = .ok (.i2l, 1) := by decide +kernel
theorem dL_law_1106 : decode cL_law 1106 = .ok (.lcmp, 1) := by decide +kernel
theorem dL_law_1107 : decode cL_law 1107 = .ok (.ifCond .eq 5, 3) := by decide +kernel
theorem dL_law_1110 : decode cL_law 1110 = .ok (.iconst 0, 1) := by decide +kernel
theorem dL_law_1111 : decode cL_law 1111 = .ok (.ireturn, 1) := by decide +kernel
theorem dL_law_1112 : decode cL_law 1112 = .ok (.goto 1007, 3) := by decide +kernel
theorem dL_law_1115 : decode cL_law 1115 = .ok (.aload_n 1, 1) := by decide +kernel
theorem dL_law_1116 : decode cL_law 1116 = .ok (.aload_n 0, 1) := by decide +kernel
theorem dL_law_1117 : decode cL_law 1117 = .ok (.iload 5, 2) := by decide +kernel
theorem dL_law_1119 : decode cL_law 1119 = .ok (.iconst 1, 1) := by decide +kernel
theorem dL_law_1120 : decode cL_law 1120 = .ok (.iadd, 1) := by decide +kernel
theorem dL_law_1121 : decode cL_law 1121 = .ok (.iaload, 1) := by decide +kernel
theorem dL_law_1122 : decode cL_law 1122 = .ok (.aload_n 0, 1) := by decide +kernel
theorem dL_law_1123 : decode cL_law 1123 = .ok (.iload 5, 2) := by decide +kernel
theorem dL_law_1125 : decode cL_law 1125 = .ok (.iconst 2, 1) := by decide +kernel
theorem dL_law_1126 : decode cL_law 1126 = .ok (.iadd, 1) := by decide +kernel
theorem dL_law_1127 : decode cL_law 1127 = .ok (.iaload, 1) := by decide +kernel
theorem dL_law_1128 : decode cL_law 1128 = .ok (.aload_n 3, 1) := by decide +kernel
theorem dL_law_1129 : decode cL_law 1129 = .ok (.invokestatic 186, 3) := by decide +kernel
theorem dL_law_1132 : decode cL_law 1132 = .ok (.istore 6, 2) := by decide +kernel
theorem dL_law_1134 : decode cL_law 1134 = .ok (.aload_n 2, 1) := by decide +kernel
theorem dL_law_1135 : decode cL_law 1135 = .ok (.aload_n 0, 1) := by decide +kernel
theorem dL_law_1136 : decode cL_law 1136 = .ok (.iload 5, 2) := by decide +kernel
theorem dL_law_1138 : decode cL_law 1138 = .ok (.iconst 1, 1) := by decide +kernel
theorem dL_law_1139 : decode cL_law 1139 = .ok (.iadd, 1) := by decide +kernel
theorem dL_law_1140 : decode cL_law 1140 = .ok (.iaload, 1) := by decide +kernel
theorem dL_law_1141 : decode cL_law 1141 = .ok (.aload_n 0, 1) := by decide +kernel
theorem dL_law_1142 : decode cL_law 1142 = .ok (.iload 5, 2) := by decide +kernel
theorem dL_law_1144 : decode cL_law 1144 = .ok (.iconst 2, 1) := by decide +kernel
theorem dL_law_1145 : decode cL_law 1145 = .ok (.iadd, 1) := by decide +kernel
theorem dL_law_1146 : decode cL_law 1146 = .ok (.iaload, 1) := by decide +kernel
theorem dL_law_1147 : decode cL_law 1147 = .ok (.invokevirtual 188, 3) := by decide +kernel
theorem dL_law_1150 : decode cL_law 1150 = .ok (.istore 7, 2) := by decide +kernel
theorem dL_law_1152 : decode cL_law 1152 = .ok (.aload_n 2, 1) := by decide +kernel
theorem dL_law_1153 : decode cL_law 1153 = .ok (.invokevirtual 130, 3) := by decide +kernel
theorem dL_law_1156 : decode cL_law 1156 = .ok (.iload 6, 2) := by decide +kernel
theorem dL_law_1158 : decode cL_law 1158 = .ok (.if_icmp .eq 5, 3) := by decide +kernel
theorem dL_law_1161 : decode cL_law 1161 = .ok (.iconst 0, 1) := by decide +kernel
theorem dL_law_1162 : decode cL_law 1162 = .ok (.ireturn, 1) := by decide +kernel
theorem dL_law_1163 : decode cL_law 1163 = .ok (.iload 6, 2) := by decide +kernel
theorem dL_law_1165 : decode cL_law 1165 = .ok (.ifCond .ne 15, 3) := by decide +kernel
theorem dL_law_1168 : decode cL_law 1168 = .ok (.aload_n 3, 1) := by decide +kernel
theorem dL_law_1169 : decode cL_law 1169 = .ok (.iconst 0, 1) := by decide +kernel
theorem dL_law_1170 : decode cL_law 1170 = .ok (.laload, 1) := by decide +kernel
theorem dL_law_1171 : decode cL_law 1171 = .ok (.iload 7, 2) := by decide +kernel
theorem dL_law_1173 : decode cL_law 1173 = .ok (.i2l, 1) := by decide +kernel
theorem dL_law_1174 : decode cL_law 1174 = .ok (.lcmp, 1) := by decide +kernel
theorem dL_law_1175 : decode cL_law 1175 = .ok (.ifCond .eq 5, 3) := by decide +kernel
theorem dL_law_1178 : decode cL_law 1178 = .ok (.iconst 0, 1) := by decide +kernel
theorem dL_law_1179 : decode cL_law 1179 = .ok (.ireturn, 1) := by decide +kernel
theorem dL_law_1180 : decode cL_law 1180 = .ok (.goto 939, 3) := by decide +kernel
theorem dL_law_1183 : decode cL_law 1183 = .ok (.aload_n 1, 1) := by decide +kernel
theorem dL_law_1184 : decode cL_law 1184 = .ok (.aload_n 0, 1) := by decide +kernel
theorem dL_law_1185 : decode cL_law 1185 = .ok (.iload 5, 2) := by decide +kernel
theorem dL_law_1187 : decode cL_law 1187 = .ok (.iconst 1, 1) := by decide +kernel
theorem dL_law_1188 : decode cL_law 1188 = .ok (.iadd, 1) := by decide +kernel
theorem dL_law_1189 : decode cL_law 1189 = .ok (.iaload, 1) := by decide +kernel
theorem dL_law_1190 : decode cL_law 1190 = .ok (.aload_n 3, 1) := by decide +kernel
theorem dL_law_1191 : decode cL_law 1191 = .ok (.invokestatic 189, 3) := by decide +kernel
theorem dL_law_1194 : decode cL_law 1194 = .ok (.istore 6, 2) := by decide +kernel
theorem dL_law_1196 : decode cL_law 1196 = .ok (.aload_n 2, 1) := by decide +kernel
theorem dL_law_1197 : decode cL_law 1197 = .ok (.aload_n 0, 1) := by decide +kernel
theorem dL_law_1198 : decode cL_law 1198 = .ok (.iload 5, 2) := by decide +kernel
theorem dL_law_1200 : decode cL_law 1200 = .ok (.iconst 1, 1) := by decide +kernel
theorem dL_law_1201 : decode cL_law 1201 = .ok (.iadd, 1) := by decide +kernel
theorem dL_law_1202 : decode cL_law 1202 = .ok (.iaload, 1) := by decide +kernel
theorem dL_law_1203 : decode cL_law 1203 = .ok (.invokevirtual 191, 3) := by decide +kernel
theorem dL_law_1206 : decode cL_law 1206 = .ok (.istore 7, 2) := by decide +kernel
theorem dL_law_1208 : decode cL_law 1208 = .ok (.aload_n 2, 1) := by decide +kernel
theorem dL_law_1209 : decode cL_law 1209 = .ok (.invokevirtual 130, 3) := by decide +kernel
theorem dL_law_1212 : decode cL_law 1212 = .ok (.iload 6, 2) := by decide +kernel
theorem dL_law_1214 : decode cL_law 1214 = .ok (.if_icmp .eq 5, 3) := by decide +kernel
theorem dL_law_1217 : decode cL_law 1217 = .ok (.iconst 0, 1) := by decide +kernel
theorem dL_law_1218 : decode cL_law 1218 = .ok (.ireturn, 1) := by decide +kernel
theorem dL_law_1219 : decode cL_law 1219 = .ok (.iload 6, 2) := by decide +kernel
theorem dL_law_1221 : decode cL_law 1221 = .ok (.ifCond .ne 15, 3) := by decide +kernel
theorem dL_law_1224 : decode cL_law 1224 = .ok (.aload_n 3, 1) := by decide +kernel
theorem dL_law_1225 : decode cL_law 1225 = .ok (.iconst 0, 1) := by decide +kernel
theorem dL_law_1226 : decode cL_law 1226 = .ok (.laload, 1) := by decide +kernel
theorem dL_law_1227 : decode cL_law 1227 = .ok (.iload 7, 2) := by decide +kernel
theorem dL_law_1229 : decode cL_law 1229 = .ok (.i2l, 1) := by decide +kernel
theorem dL_law_1230 : decode cL_law 1230 = .ok (.lcmp, 1) := by decide +kernel
theorem dL_law_1231 : decode cL_law 1231 = .ok (.ifCond .eq 5, 3) := by decide +kernel
theorem dL_law_1234 : decode cL_law 1234 = .ok (.iconst 0, 1) := by decide +kernel
theorem dL_law_1235 : decode cL_law 1235 = .ok (.ireturn, 1) := by decide +kernel
theorem dL_law_1236 : decode cL_law 1236 = .ok (.goto 883, 3) := by decide +kernel
theorem dL_law_1239 : decode cL_law 1239 = .ok (.aload_n 1, 1) := by decide +kernel
theorem dL_law_1240 : decode cL_law 1240 = .ok (.aload_n 0, 1) := by decide +kernel
theorem dL_law_1241 : decode cL_law 1241 = .ok (.iload 5, 2) := by decide +kernel
theorem dL_law_1243 : decode cL_law 1243 = .ok (.iconst 1, 1) := by decide +kernel
theorem dL_law_1244 : decode cL_law 1244 = .ok (.iadd, 1) := by decide +kernel
theorem dL_law_1245 : decode cL_law 1245 = .ok (.iaload, 1) := by decide +kernel
theorem dL_law_1246 : decode cL_law 1246 = .ok (.aload_n 3, 1) := by decide +kernel
theorem dL_law_1247 : decode cL_law 1247 = .ok (.invokestatic 192, 3) := by decide +kernel
theorem dL_law_1250 : decode cL_law 1250 = .ok (.istore 6, 2) := by decide +kernel
theorem dL_law_1252 : decode cL_law 1252 = .ok (.aload_n 2, 1) := by decide +kernel
theorem dL_law_1253 : decode cL_law 1253 = .ok (.aload_n 0, 1) := by decide +kernel
theorem dL_law_1254 : decode cL_law 1254 = .ok (.iload 5, 2) := by decide +kernel
theorem dL_law_1256 : decode cL_law 1256 = .ok (.iconst 1, 1) := by decide +kernel
theorem dL_law_1257 : decode cL_law 1257 = .ok (.iadd, 1) := by decide +kernel
theorem dL_law_1258 : decode cL_law 1258 = .ok (.iaload, 1) := by decide +kernel
theorem dL_law_1259 : decode cL_law 1259 = .ok (.invokevirtual 194, 3) := by decide +kernel
theorem dL_law_1262 : decode cL_law 1262 = .ok (.istore 7, 2) := by decide +kernel
theorem dL_law_1264 : decode cL_law 1264 = .ok (.aload_n 2, 1) := by decide +kernel
theorem dL_law_1265 : decode cL_law 1265 = .ok (.invokevirtual 130, 3) := by decide +kernel
theorem dL_law_1268 : decode cL_law 1268 = .ok (.iload 6, 2) := by decide +kernel
theorem dL_law_1270 : decode cL_law 1270 = .ok (.if_icmp .eq 5, 3) := by decide +kernel
theorem dL_law_1273 : decode cL_law 1273 = .ok (.iconst 0, 1) := by decide +kernel
theorem dL_law_1274 : decode cL_law 1274 = .ok (.ireturn, 1) := by decide +kernel
theorem dL_law_1275 : decode cL_law 1275 = .ok (.iload 6, 2) := by decide +kernel
theorem dL_law_1277 : decode cL_law 1277 = .ok (.ifCond .ne 22, 3) := by decide +kernel
theorem dL_law_1280 : decode cL_law 1280 = .ok (.aload_n 3, 1) := by decide +kernel
theorem dL_law_1281 : decode cL_law 1281 = .ok (.iconst 0, 1) := by decide +kernel
theorem dL_law_1282 : decode cL_law 1282 = .ok (.laload, 1) := by decide +kernel
theorem dL_law_1283 : decode cL_law 1283 = .ok (.iload 7, 2) := by decide +kernel
theorem dL_law_1285 : decode cL_law 1285 = .ok (.ifCond .eq 7, 3) := by decide +kernel
theorem dL_law_1288 : decode cL_law 1288 = .ok (.lconst 1, 1) := by decide +kernel
theorem dL_law_1289 : decode cL_law 1289 = .ok (.goto 4, 3) := by decide +kernel
theorem dL_law_1292 : decode cL_law 1292 = .ok (.lconst 0, 1) := by decide +kernel
theorem dL_law_1293 : decode cL_law 1293 = .ok (.lcmp, 1) := by decide +kernel
theorem dL_law_1294 : decode cL_law 1294 = .ok (.ifCond .eq 5, 3) := by decide +kernel
theorem dL_law_1297 : decode cL_law 1297 = .ok (.iconst 0, 1) := by decide +kernel
theorem dL_law_1298 : decode cL_law 1298 = .ok (.ireturn, 1) := by decide +kernel
theorem dL_law_1299 : decode cL_law 1299 = .ok (.goto 820, 3) := by decide +kernel
theorem dL_law_1302 : decode cL_law 1302 = .ok (.aload_n 1, 1) := by decide +kernel
theorem dL_law_1303 : decode cL_law 1303 = .ok (.aload_n 0, 1) := by decide +kernel
theorem dL_law_1304 : decode cL_law 1304 = .ok (.iload 5, 2) := by decide +kernel
theorem dL_law_1306 : decode cL_law 1306 = .ok (.iconst 1, 1) := by decide +kernel
theorem dL_law_1307 : decode cL_law 1307 = .ok (.iadd, 1) := by decide +kernel
theorem dL_law_1308 : decode cL_law 1308 = .ok (.iaload, 1) := by decide +kernel
theorem dL_law_1309 : decode cL_law 1309 = .ok (.aload_n 0, 1) := by decide +kernel
theorem dL_law_1310 : decode cL_law 1310 = .ok (.iload 5, 2) := by decide +kernel
theorem dL_law_1312 : decode cL_law 1312 = .ok (.iconst 2, 1) := by decide +kernel
theorem dL_law_1313 : decode cL_law 1313 = .ok (.iadd, 1) := by decide +kernel
theorem dL_law_1314 : decode cL_law 1314 = .ok (.iaload, 1) := by decide +kernel
theorem dL_law_1315 : decode cL_law 1315 = .ok (.aload_n 0, 1) := by decide +kernel
theorem dL_law_1316 : decode cL_law 1316 = .ok (.iload 5, 2) := by decide +kernel
theorem dL_law_1318 : decode cL_law 1318 = .ok (.iconst 3, 1) := by decide +kernel
theorem dL_law_1319 : decode cL_law 1319 = .ok (.iadd, 1) := by decide +kernel
theorem dL_law_1320 : decode cL_law 1320 = .ok (.iaload, 1) := by decide +kernel
theorem dL_law_1321 : decode cL_law 1321 = .ok (.aload_n 0, 1) := by decide +kernel
theorem dL_law_1322 : decode cL_law 1322 = .ok (.iload 5, 2) := by decide +kernel
theorem dL_law_1324 : decode cL_law 1324 = .ok (.iconst 4, 1) := by decide +kernel
theorem dL_law_1325 : decode cL_law 1325 = .ok (.iadd, 1) := by decide +kernel
theorem dL_law_1326 : decode cL_law 1326 = .ok (.iaload, 1) := by decide +kernel
theorem dL_law_1327 : decode cL_law 1327 = .ok (.aload_n 3, 1) := by decide +kernel
theorem dL_law_1328 : decode cL_law 1328 = .ok (.invokestatic 195, 3) := by decide +kernel
theorem dL_law_1331 : decode cL_law 1331 = .ok (.istore 6, 2) := by decide +kernel
theorem dL_law_1333 : decode cL_law 1333 = .ok (.aload_n 2, 1) := by decide +kernel
theorem dL_law_1334 : decode cL_law 1334 = .ok (.aload_n 0, 1) := by decide +kernel
theorem dL_law_1335 : decode cL_law 1335 = .ok (.iload 5, 2) := by decide +kernel
theorem dL_law_1337 : decode cL_law 1337 = .ok (.iconst 1, 1) := by decide +kernel
theorem dL_law_1338 : decode cL_law 1338 = .ok (.iadd, 1) := by decide +kernel
theorem dL_law_1339 : decode cL_law 1339 = .ok (.iaload, 1) := by decide +kernel
theorem dL_law_1340 : decode cL_law 1340 = .ok (.aload_n 0, 1) := by decide +kernel
theorem dL_law_1341 : decode cL_law 1341 = .ok (.iload 5, 2) := by decide +kernel
theorem dL_law_1343 : decode cL_law 1343 = .ok (.iconst 2, 1) := by decide +kernel
theorem dL_law_1344 : decode cL_law 1344 = .ok (.iadd, 1) := by decide +kernel
theorem dL_law_1345 : decode cL_law 1345 = .ok (.iaload, 1) := by decide +kernel
theorem dL_law_1346 : decode cL_law 1346 = .ok (.aload_n 0, 1) := by decide +kernel
theorem dL_law_1347 : decode cL_law 1347 = .ok (.iload 5, 2) := by decide +kernel
theorem dL_law_1349 : decode cL_law 1349 = .ok (.iconst 3, 1) := by decide +kernel
theorem dL_law_1350 : decode cL_law 1350 = .ok (.iadd, 1) := by decide +kernel
theorem dL_law_1351 : decode cL_law 1351 = .ok (.iaload, 1) := by decide +kernel
theorem dL_law_1352 : decode cL_law 1352 = .ok (.aload_n 0, 1) := by decide +kernel
theorem dL_law_1353 : decode cL_law 1353 = .ok (.iload 5, 2) := by decide +kernel
theorem dL_law_1355 : decode cL_law 1355 = .ok (.iconst 4, 1) := by decide +kernel
theorem dL_law_1356 : decode cL_law 1356 = .ok (.iadd, 1) := by decide +kernel
theorem dL_law_1357 : decode cL_law 1357 = .ok (.iaload, 1) := by decide +kernel
theorem dL_law_1358 : decode cL_law 1358 = .ok (.invokevirtual 198, 3) := by decide +kernel
theorem dL_law_1361 : decode cL_law 1361 = .ok (.istore 7, 2) := by decide +kernel
theorem dL_law_1363 : decode cL_law 1363 = .ok (.aload_n 2, 1) := by decide +kernel
theorem dL_law_1364 : decode cL_law 1364 = .ok (.invokevirtual 130, 3) := by decide +kernel
theorem dL_law_1367 : decode cL_law 1367 = .ok (.iload 6, 2) := by decide +kernel
theorem dL_law_1369 : decode cL_law 1369 = .ok (.if_icmp .eq 5, 3) := by decide +kernel
theorem dL_law_1372 : decode cL_law 1372 = .ok (.iconst 0, 1) := by decide +kernel
theorem dL_law_1373 : decode cL_law 1373 = .ok (.ireturn, 1) := by decide +kernel
theorem dL_law_1374 : decode cL_law 1374 = .ok (.iload 6, 2) := by decide +kernel
theorem dL_law_1376 : decode cL_law 1376 = .ok (.ifCond .ne 15, 3) := by decide +kernel
theorem dL_law_1379 : decode cL_law 1379 = .ok (.aload_n 3, 1) := by decide +kernel
theorem dL_law_1380 : decode cL_law 1380 = .ok (.iconst 0, 1) := by decide +kernel
theorem dL_law_1381 : decode cL_law 1381 = .ok (.laload, 1) := by decide +kernel
theorem dL_law_1382 : decode cL_law 1382 = .ok (.iload 7, 2) := by decide +kernel
theorem dL_law_1384 : decode cL_law 1384 = .ok (.i2l, 1) := by decide +kernel
theorem dL_law_1385 : decode cL_law 1385 = .ok (.lcmp, 1) := by decide +kernel
theorem dL_law_1386 : decode cL_law 1386 = .ok (.ifCond .eq 5, 3) := by decide +kernel
theorem dL_law_1389 : decode cL_law 1389 = .ok (.iconst 0, 1) := by decide +kernel
theorem dL_law_1390 : decode cL_law 1390 = .ok (.ireturn, 1) := by decide +kernel
theorem dL_law_1391 : decode cL_law 1391 = .ok (.goto 728, 3) := by decide +kernel
theorem dL_law_1394 : decode cL_law 1394 = .ok (.aload_n 1, 1) := by decide +kernel
theorem dL_law_1395 : decode cL_law 1395 = .ok (.aload_n 0, 1) := by decide +kernel
theorem dL_law_1396 : decode cL_law 1396 = .ok (.iload 5, 2) := by decide +kernel
theorem dL_law_1398 : decode cL_law 1398 = .ok (.iconst 1, 1) := by decide +kernel
theorem dL_law_1399 : decode cL_law 1399 = .ok (.iadd, 1) := by decide +kernel
theorem dL_law_1400 : decode cL_law 1400 = .ok (.iaload, 1) := by decide +kernel
theorem dL_law_1401 : decode cL_law 1401 = .ok (.aload_n 3, 1) := by decide +kernel
theorem dL_law_1402 : decode cL_law 1402 = .ok (.invokestatic 199, 3) := by decide +kernel
theorem dL_law_1405 : decode cL_law 1405 = .ok (.istore 6, 2) := by decide +kernel
theorem dL_law_1407 : decode cL_law 1407 = .ok (.aload_n 2, 1) := by decide +kernel
theorem dL_law_1408 : decode cL_law 1408 = .ok (.aload_n 0, 1) := by decide +kernel
theorem dL_law_1409 : decode cL_law 1409 = .ok (.iload 5, 2) := by decide +kernel
theorem dL_law_1411 : decode cL_law 1411 = .ok (.iconst 1, 1) := by decide +kernel
theorem dL_law_1412 : decode cL_law 1412 = .ok (.iadd, 1) := by decide +kernel
theorem dL_law_1413 : decode cL_law 1413 = .ok (.iaload, 1) := by decide +kernel
theorem dL_law_1414 : decode cL_law 1414 = .ok (.invokevirtual 201, 3) := by decide +kernel
theorem dL_law_1417 : decode cL_law 1417 = .ok (.istore 7, 2) := by decide +kernel
theorem dL_law_1419 : decode cL_law 1419 = .ok (.aload_n 2, 1) := by decide +kernel
theorem dL_law_1420 : decode cL_law 1420 = .ok (.invokevirtual 130, 3) := by decide +kernel
theorem dL_law_1423 : decode cL_law 1423 = .ok (.iload 6, 2) := by decide +kernel
theorem dL_law_1425 : decode cL_law 1425 = .ok (.if_icmp .eq 5, 3) := by decide +kernel
theorem dL_law_1428 : decode cL_law 1428 = .ok (.iconst 0, 1) := by decide +kernel
theorem dL_law_1429 : decode cL_law 1429 = .ok (.ireturn, 1) := by decide +kernel
theorem dL_law_1430 : decode cL_law 1430 = .ok (.iload 6, 2) := by decide +kernel
theorem dL_law_1432 : decode cL_law 1432 = .ok (.ifCond .ne 15, 3) := by decide +kernel
theorem dL_law_1435 : decode cL_law 1435 = .ok (.aload_n 3, 1) := by decide +kernel
theorem dL_law_1436 : decode cL_law 1436 = .ok (.iconst 0, 1) := by decide +kernel
theorem dL_law_1437 : decode cL_law 1437 = .ok (.laload, 1) := by decide +kernel
theorem dL_law_1438 : decode cL_law 1438 = .ok (.iload 7, 2) := by decide +kernel
theorem dL_law_1440 : decode cL_law 1440 = .ok (.i2l, 1) := by decide +kernel
theorem dL_law_1441 : decode cL_law 1441 = .ok (.lcmp, 1) := by decide +kernel
theorem dL_law_1442 : decode cL_law 1442 = .ok (.ifCond .eq 5, 3) := by decide +kernel
theorem dL_law_1445 : decode cL_law 1445 = .ok (.iconst 0, 1) := by decide +kernel
theorem dL_law_1446 : decode cL_law 1446 = .ok (.ireturn, 1) := by decide +kernel
theorem dL_law_1447 : decode cL_law 1447 = .ok (.goto 672, 3) := by decide +kernel
theorem dL_law_1450 : decode cL_law 1450 = .ok (.aload_n 1, 1) := by decide +kernel
theorem dL_law_1451 : decode cL_law 1451 = .ok (.aload_n 0, 1) := by decide +kernel
theorem dL_law_1452 : decode cL_law 1452 = .ok (.iload 5, 2) := by decide +kernel
theorem dL_law_1454 : decode cL_law 1454 = .ok (.iconst 1, 1) := by decide +kernel
theorem dL_law_1455 : decode cL_law 1455 = .ok (.iadd, 1) := by decide +kernel
theorem dL_law_1456 : decode cL_law 1456 = .ok (.iaload, 1) := by decide +kernel
theorem dL_law_1457 : decode cL_law 1457 = .ok (.aload_n 3, 1) := by decide +kernel
theorem dL_law_1458 : decode cL_law 1458 = .ok (.invokestatic 202, 3) := by decide +kernel
theorem dL_law_1461 : decode cL_law 1461 = .ok (.istore 6, 2) := by decide +kernel
theorem dL_law_1463 : decode cL_law 1463 = .ok (.aload_n 2, 1) := by decide +kernel
theorem dL_law_1464 : decode cL_law 1464 = .ok (.aload_n 0, 1) := by decide +kernel
theorem dL_law_1465 : decode cL_law 1465 = .ok (.iload 5, 2) := by decide +kernel
theorem dL_law_1467 : decode cL_law 1467 = .ok (.iconst 1, 1) := by decide +kernel
theorem dL_law_1468 : decode cL_law 1468 = .ok (.iadd, 1) := by decide +kernel
theorem dL_law_1469 : decode cL_law 1469 = .ok (.iaload, 1) := by decide +kernel
theorem dL_law_1470 : decode cL_law 1470 = .ok (.invokevirtual 204, 3) := by decide +kernel
theorem dL_law_1473 : decode cL_law 1473 = .ok (.istore 7, 2) := by decide +kernel
theorem dL_law_1475 : decode cL_law 1475 = .ok (.aload_n 2, 1) := by decide +kernel
theorem dL_law_1476 : decode cL_law 1476 = .ok (.invokevirtual 130, 3) := by decide +kernel
theorem dL_law_1479 : decode cL_law 1479 = .ok (.iload 6, 2) := by decide +kernel
theorem dL_law_1481 : decode cL_law 1481 = .ok (.if_icmp .eq 5, 3) := by decide +kernel
theorem dL_law_1484 : decode cL_law 1484 = .ok (.iconst 0, 1) := by decide +kernel
theorem dL_law_1485 : decode cL_law 1485 = .ok (.ireturn, 1) := by decide +kernel
theorem dL_law_1486 : decode cL_law 1486 = .ok (.iload 6, 2) := by decide +kernel
theorem dL_law_1488 : decode cL_law 1488 = .ok (.ifCond .ne 15, 3) := by decide +kernel
theorem dL_law_1491 : decode cL_law 1491 = .ok (.aload_n 3, 1) := by decide +kernel
theorem dL_law_1492 : decode cL_law 1492 = .ok (.iconst 0, 1) := by decide +kernel
theorem dL_law_1493 : decode cL_law 1493 = .ok (.laload, 1) := by decide +kernel
theorem dL_law_1494 : decode cL_law 1494 = .ok (.iload 7, 2) := by decide +kernel
theorem dL_law_1496 : decode cL_law 1496 = .ok (.i2l, 1) := by decide +kernel
theorem dL_law_1497 : decode cL_law 1497 = .ok (.lcmp, 1) := by decide +kernel
theorem dL_law_1498 : decode cL_law 1498 = .ok (.ifCond .eq 5, 3) := by decide +kernel
theorem dL_law_1501 : decode cL_law 1501 = .ok (.iconst 0, 1) := by decide +kernel
theorem dL_law_1502 : decode cL_law 1502 = .ok (.ireturn, 1) := by decide +kernel
theorem dL_law_1503 : decode cL_law 1503 = .ok (.goto 616, 3) := by decide +kernel
theorem dL_law_1506 : decode cL_law 1506 = .ok (.aload_n 1, 1) := by decide +kernel
theorem dL_law_1507 : decode cL_law 1507 = .ok (.aload_n 0, 1) := by decide +kernel
theorem dL_law_1508 : decode cL_law 1508 = .ok (.iload 5, 2) := by decide +kernel
theorem dL_law_1510 : decode cL_law 1510 = .ok (.iconst 1, 1) := by decide +kernel
theorem dL_law_1511 : decode cL_law 1511 = .ok (.iadd, 1) := by decide +kernel
theorem dL_law_1512 : decode cL_law 1512 = .ok (.iaload, 1) := by decide +kernel
theorem dL_law_1513 : decode cL_law 1513 = .ok (.aload_n 0, 1) := by decide +kernel
theorem dL_law_1514 : decode cL_law 1514 = .ok (.iload 5, 2) := by decide +kernel
theorem dL_law_1516 : decode cL_law 1516 = .ok (.iconst 2, 1) := by decide +kernel
theorem dL_law_1517 : decode cL_law 1517 = .ok (.iadd, 1) := by decide +kernel
theorem dL_law_1518 : decode cL_law 1518 = .ok (.iaload, 1) := by decide +kernel
theorem dL_law_1519 : decode cL_law 1519 = .ok (.aload_n 3, 1) := by decide +kernel
theorem dL_law_1520 : decode cL_law 1520 = .ok (.invokestatic 205, 3) := by decide +kernel
theorem dL_law_1523 : decode cL_law 1523 = .ok (.istore 6, 2) := by decide +kernel
theorem dL_law_1525 : decode cL_law 1525 = .ok (.aload_n 2, 1) := by decide +kernel
theorem dL_law_1526 : decode cL_law 1526 = .ok (.aload_n 0, 1) := by decide +kernel
theorem dL_law_1527 : decode cL_law 1527 = .ok (.iload 5, 2) := by decide +kernel
theorem dL_law_1529 : decode cL_law 1529 = .ok (.iconst 1, 1) := by decide +kernel
theorem dL_law_1530 : decode cL_law 1530 = .ok (.iadd, 1) := by decide +kernel
theorem dL_law_1531 : decode cL_law 1531 = .ok (.iaload, 1) := by decide +kernel
theorem dL_law_1532 : decode cL_law 1532 = .ok (.aload_n 0, 1) := by decide +kernel
theorem dL_law_1533 : decode cL_law 1533 = .ok (.iload 5, 2) := by decide +kernel
theorem dL_law_1535 : decode cL_law 1535 = .ok (.iconst 2, 1) := by decide +kernel
theorem dL_law_1536 : decode cL_law 1536 = .ok (.iadd, 1) := by decide +kernel
theorem dL_law_1537 : decode cL_law 1537 = .ok (.iaload, 1) := by decide +kernel
theorem dL_law_1538 : decode cL_law 1538 = .ok (.invokevirtual 207, 3) := by decide +kernel
theorem dL_law_1541 : decode cL_law 1541 = .ok (.istore 7, 2) := by decide +kernel
theorem dL_law_1543 : decode cL_law 1543 = .ok (.aload_n 2, 1) := by decide +kernel
theorem dL_law_1544 : decode cL_law 1544 = .ok (.invokevirtual 130, 3) := by decide +kernel
theorem dL_law_1547 : decode cL_law 1547 = .ok (.iload 6, 2) := by decide +kernel
theorem dL_law_1549 : decode cL_law 1549 = .ok (.if_icmp .eq 5, 3) := by decide +kernel
theorem dL_law_1552 : decode cL_law 1552 = .ok (.iconst 0, 1) := by decide +kernel
theorem dL_law_1553 : decode cL_law 1553 = .ok (.ireturn, 1) := by decide +kernel
theorem dL_law_1554 : decode cL_law 1554 = .ok (.iload 6, 2) := by decide +kernel
theorem dL_law_1556 : decode cL_law 1556 = .ok (.ifCond .ne 15, 3) := by decide +kernel
theorem dL_law_1559 : decode cL_law 1559 = .ok (.aload_n 3, 1) := by decide +kernel
theorem dL_law_1560 : decode cL_law 1560 = .ok (.iconst 0, 1) := by decide +kernel
theorem dL_law_1561 : decode cL_law 1561 = .ok (.laload, 1) := by decide +kernel
theorem dL_law_1562 : decode cL_law 1562 = .ok (.iload 7, 2) := by decide +kernel
theorem dL_law_1564 : decode cL_law 1564 = .ok (.i2l, 1) := by decide +kernel
theorem dL_law_1565 : decode cL_law 1565 = .ok (.lcmp, 1) := by decide +kernel
theorem dL_law_1566 : decode cL_law 1566 = .ok (.ifCond .eq 5, 3) := by decide +kernel
theorem dL_law_1569 : decode cL_law 1569 = .ok (.iconst 0, 1) := by decide +kernel
theorem dL_law_1570 : decode cL_law 1570 = .ok (.ireturn, 1) := by decide +kernel
theorem dL_law_1571 : decode cL_law 1571 = .ok (.goto 548, 3) := by decide +kernel
theorem dL_law_1574 : decode cL_law 1574 = .ok (.aload_n 1, 1) := by decide +kernel
theorem dL_law_1575 : decode cL_law 1575 = .ok (.aload_n 0, 1) := by decide +kernel
theorem dL_law_1576 : decode cL_law 1576 = .ok (.iload 5, 2) := by decide +kernel
theorem dL_law_1578 : decode cL_law 1578 = .ok (.iconst 1, 1) := by decide +kernel
theorem dL_law_1579 : decode cL_law 1579 = .ok (.iadd, 1) := by decide +kernel
theorem dL_law_1580 : decode cL_law 1580 = .ok (.iaload, 1) := by decide +kernel
theorem dL_law_1581 : decode cL_law 1581 = .ok (.aload_n 3, 1) := by decide +kernel
theorem dL_law_1582 : decode cL_law 1582 = .ok (.invokestatic 208, 3) := by decide +kernel
theorem dL_law_1585 : decode cL_law 1585 = .ok (.istore 6, 2) := by decide +kernel
theorem dL_law_1587 : decode cL_law 1587 = .ok (.aload_n 2, 1) := by decide +kernel
theorem dL_law_1588 : decode cL_law 1588 = .ok (.aload_n 0, 1) := by decide +kernel
theorem dL_law_1589 : decode cL_law 1589 = .ok (.iload 5, 2) := by decide +kernel
theorem dL_law_1591 : decode cL_law 1591 = .ok (.iconst 1, 1) := by decide +kernel
theorem dL_law_1592 : decode cL_law 1592 = .ok (.iadd, 1) := by decide +kernel
theorem dL_law_1593 : decode cL_law 1593 = .ok (.iaload, 1) := by decide +kernel
theorem dL_law_1594 : decode cL_law 1594 = .ok (.invokevirtual 210, 3) := by decide +kernel
theorem dL_law_1597 : decode cL_law 1597 = .ok (.istore 7, 2) := by decide +kernel
theorem dL_law_1599 : decode cL_law 1599 = .ok (.aload_n 2, 1) := by decide +kernel
theorem dL_law_1600 : decode cL_law 1600 = .ok (.invokevirtual 130, 3) := by decide +kernel
theorem dL_law_1603 : decode cL_law 1603 = .ok (.iload 6, 2) := by decide +kernel
theorem dL_law_1605 : decode cL_law 1605 = .ok (.if_icmp .eq 5, 3) := by decide +kernel
theorem dL_law_1608 : decode cL_law 1608 = .ok (.iconst 0, 1) := by decide +kernel
theorem dL_law_1609 : decode cL_law 1609 = .ok (.ireturn, 1) := by decide +kernel
theorem dL_law_1610 : decode cL_law 1610 = .ok (.iload 6, 2) := by decide +kernel
theorem dL_law_1612 : decode cL_law 1612 = .ok (.ifCond .ne 15, 3) := by decide +kernel
theorem dL_law_1615 : decode cL_law 1615 = .ok (.aload_n 3, 1) := by decide +kernel
theorem dL_law_1616 : decode cL_law 1616 = .ok (.iconst 0, 1) := by decide +kernel
theorem dL_law_1617 : decode cL_law 1617 = .ok (.laload, 1) := by decide +kernel
theorem dL_law_1618 : decode cL_law 1618 = .ok (.iload 7, 2) := by decide +kernel
theorem dL_law_1620 : decode cL_law 1620 = .ok (.i2l, 1) := by decide +kernel
theorem dL_law_1621 : decode cL_law 1621 = .ok (.lcmp, 1) := by decide +kernel
theorem dL_law_1622 : decode cL_law 1622 = .ok (.ifCond .eq 5, 3) := by decide +kernel
theorem dL_law_1625 : decode cL_law 1625 = .ok (.iconst 0, 1) := by decide +kernel
theorem dL_law_1626 : decode cL_law 1626 = .ok (.ireturn, 1) := by decide +kernel
theorem dL_law_1627 : decode cL_law 1627 = .ok (.goto 492, 3) := by decide +kernel
theorem dL_law_1630 : decode cL_law 1630 = .ok (.aload_n 1, 1) := by decide +kernel
theorem dL_law_1631 : decode cL_law 1631 = .ok (.invokevirtual 211, 3) := by decide +kernel
theorem dL_law_1634 : decode cL_law 1634 = .ok (.aload_n 2, 1) := by decide +kernel
theorem dL_law_1635 : decode cL_law 1635 = .ok (.invokevirtual 214, 3) := by decide +kernel
theorem dL_law_1638 : decode cL_law 1638 = .ok (.if_icmp .eq 481, 3) := by decide +kernel
theorem dL_law_1641 : decode cL_law 1641 = .ok (.iconst 0, 1) := by decide +kernel
theorem dL_law_1642 : decode cL_law 1642 = .ok (.ireturn, 1) := by decide +kernel
theorem dL_law_1643 : decode cL_law 1643 = .ok (.aload_n 1, 1) := by decide +kernel
theorem dL_law_1644 : decode cL_law 1644 = .ok (.aload_n 0, 1) := by decide +kernel
theorem dL_law_1645 : decode cL_law 1645 = .ok (.iload 5, 2) := by decide +kernel
theorem dL_law_1647 : decode cL_law 1647 = .ok (.iconst 1, 1) := by decide +kernel
theorem dL_law_1648 : decode cL_law 1648 = .ok (.iadd, 1) := by decide +kernel
theorem dL_law_1649 : decode cL_law 1649 = .ok (.iaload, 1) := by decide +kernel
theorem dL_law_1650 : decode cL_law 1650 = .ok (.ifCond .eq 7, 3) := by decide +kernel
theorem dL_law_1653 : decode cL_law 1653 = .ok (.iconst 1, 1) := by decide +kernel
theorem dL_law_1654 : decode cL_law 1654 = .ok (.goto 4, 3) := by decide +kernel
theorem dL_law_1657 : decode cL_law 1657 = .ok (.iconst 0, 1) := by decide +kernel
theorem dL_law_1658 : decode cL_law 1658 = .ok (.invokevirtual 215, 3) := by decide +kernel
theorem dL_law_1661 : decode cL_law 1661 = .ok (.aload_n 2, 1) := by decide +kernel
theorem dL_law_1662 : decode cL_law 1662 = .ok (.aload_n 0, 1) := by decide +kernel
theorem dL_law_1663 : decode cL_law 1663 = .ok (.iload 5, 2) := by decide +kernel
theorem dL_law_1665 : decode cL_law 1665 = .ok (.iconst 1, 1) := by decide +kernel
theorem dL_law_1666 : decode cL_law 1666 = .ok (.iadd, 1) := by decide +kernel
theorem dL_law_1667 : decode cL_law 1667 = .ok (.iaload, 1) := by decide +kernel
theorem dL_law_1668 : decode cL_law 1668 = .ok (.ifCond .eq 7, 3) := by decide +kernel
theorem dL_law_1671 : decode cL_law 1671 = .ok (.iconst 1, 1) := by decide +kernel
theorem dL_law_1672 : decode cL_law 1672 = .ok (.goto 4, 3) := by decide +kernel
theorem dL_law_1675 : decode cL_law 1675 = .ok (.iconst 0, 1) := by decide +kernel
theorem dL_law_1676 : decode cL_law 1676 = .ok (.invokevirtual 219, 3) := by decide +kernel
theorem dL_law_1679 : decode cL_law 1679 = .ok (.if_icmp .eq 440, 3) := by decide +kernel
theorem dL_law_1682 : decode cL_law 1682 = .ok (.iconst 0, 1) := by decide +kernel
theorem dL_law_1683 : decode cL_law 1683 = .ok (.ireturn, 1) := by decide +kernel
theorem dL_law_1684 : decode cL_law 1684 = .ok (.aload_n 1, 1) := by decide +kernel
theorem dL_law_1685 : decode cL_law 1685 = .ok (.aload_n 3, 1) := by decide +kernel
theorem dL_law_1686 : decode cL_law 1686 = .ok (.invokestatic 220, 3) := by decide +kernel
theorem dL_law_1689 : decode cL_law 1689 = .ok (.istore 6, 2) := by decide +kernel
theorem dL_law_1691 : decode cL_law 1691 = .ok (.aload_n 2, 1) := by decide +kernel
theorem dL_law_1692 : decode cL_law 1692 = .ok (.invokevirtual 222, 3) := by decide +kernel
theorem dL_law_1695 : decode cL_law 1695 = .ok (.istore 7, 2) := by decide +kernel
theorem dL_law_1697 : decode cL_law 1697 = .ok (.aload_n 2, 1) := by decide +kernel
theorem dL_law_1698 : decode cL_law 1698 = .ok (.invokevirtual 130, 3) := by decide +kernel
theorem dL_law_1701 : decode cL_law 1701 = .ok (.iload 6, 2) := by decide +kernel
theorem dL_law_1703 : decode cL_law 1703 = .ok (.if_icmp .eq 5, 3) := by decide +kernel
theorem dL_law_1706 : decode cL_law 1706 = .ok (.iconst 0, 1) := by decide +kernel
theorem dL_law_1707 : decode cL_law 1707 = .ok (.ireturn, 1) := by decide +kernel
theorem dL_law_1708 : decode cL_law 1708 = .ok (.iload 6, 2) := by decide +kernel
theorem dL_law_1710 : decode cL_law 1710 = .ok (.ifCond .ne 15, 3) := by decide +kernel
theorem dL_law_1713 : decode cL_law 1713 = .ok (.aload_n 3, 1) := by decide +kernel
theorem dL_law_1714 : decode cL_law 1714 = .ok (.iconst 0, 1) := by decide +kernel
theorem dL_law_1715 : decode cL_law 1715 = .ok (.laload, 1) := by decide +kernel
theorem dL_law_1716 : decode cL_law 1716 = .ok (.iload 7, 2) := by decide +kernel
theorem dL_law_1718 : decode cL_law 1718 = .ok (.i2l, 1) := by decide +kernel
theorem dL_law_1719 : decode cL_law 1719 = .ok (.lcmp, 1) := by decide +kernel
theorem dL_law_1720 : decode cL_law 1720 = .ok (.ifCond .eq 5, 3) := by decide +kernel
theorem dL_law_1723 : decode cL_law 1723 = .ok (.iconst 0, 1) := by decide +kernel
theorem dL_law_1724 : decode cL_law 1724 = .ok (.ireturn, 1) := by decide +kernel
theorem dL_law_1725 : decode cL_law 1725 = .ok (.goto 394, 3) := by decide +kernel
theorem dL_law_1728 : decode cL_law 1728 = .ok (.aload_n 1, 1) := by decide +kernel
theorem dL_law_1729 : decode cL_law 1729 = .ok (.aload_n 0, 1) := by decide +kernel
theorem dL_law_1730 : decode cL_law 1730 = .ok (.iload 5, 2) := by decide +kernel
theorem dL_law_1732 : decode cL_law 1732 = .ok (.iconst 1, 1) := by decide +kernel
theorem dL_law_1733 : decode cL_law 1733 = .ok (.iadd, 1) := by decide +kernel
theorem dL_law_1734 : decode cL_law 1734 = .ok (.iaload, 1) := by decide +kernel
theorem dL_law_1735 : decode cL_law 1735 = .ok (.aload_n 3, 1) := by decide +kernel
theorem dL_law_1736 : decode cL_law 1736 = .ok (.invokestatic 223, 3) := by decide +kernel
theorem dL_law_1739 : decode cL_law 1739 = .ok (.istore 6, 2) := by decide +kernel
theorem dL_law_1741 : decode cL_law 1741 = .ok (.aload_n 2, 1) := by decide +kernel
theorem dL_law_1742 : decode cL_law 1742 = .ok (.aload_n 0, 1) := by decide +kernel
theorem dL_law_1743 : decode cL_law 1743 = .ok (.iload 5, 2) := by decide +kernel
theorem dL_law_1745 : decode cL_law 1745 = .ok (.iconst 1, 1) := by decide +kernel
theorem dL_law_1746 : decode cL_law 1746 = .ok (.iadd, 1) := by decide +kernel
theorem dL_law_1747 : decode cL_law 1747 = .ok (.iaload, 1) := by decide +kernel
theorem dL_law_1748 : decode cL_law 1748 = .ok (.invokevirtual 225, 3) := by decide +kernel
theorem dL_law_1751 : decode cL_law 1751 = .ok (.istore 7, 2) := by decide +kernel
theorem dL_law_1753 : decode cL_law 1753 = .ok (.aload_n 2, 1) := by decide +kernel
theorem dL_law_1754 : decode cL_law 1754 = .ok (.invokevirtual 130, 3) := by decide +kernel
theorem dL_law_1757 : decode cL_law 1757 = .ok (.iload 6, 2) := by decide +kernel
theorem dL_law_1759 : decode cL_law 1759 = .ok (.if_icmp .eq 5, 3) := by decide +kernel
theorem dL_law_1762 : decode cL_law 1762 = .ok (.iconst 0, 1) := by decide +kernel
theorem dL_law_1763 : decode cL_law 1763 = .ok (.ireturn, 1) := by decide +kernel
theorem dL_law_1764 : decode cL_law 1764 = .ok (.iload 6, 2) := by decide +kernel
theorem dL_law_1766 : decode cL_law 1766 = .ok (.ifCond .ne 15, 3) := by decide +kernel
theorem dL_law_1769 : decode cL_law 1769 = .ok (.aload_n 3, 1) := by decide +kernel
theorem dL_law_1770 : decode cL_law 1770 = .ok (.iconst 0, 1) := by decide +kernel
theorem dL_law_1771 : decode cL_law 1771 = .ok (.laload, 1) := by decide +kernel
theorem dL_law_1772 : decode cL_law 1772 = .ok (.iload 7, 2) := by decide +kernel
theorem dL_law_1774 : decode cL_law 1774 = .ok (.i2l, 1) := by decide +kernel
theorem dL_law_1775 : decode cL_law 1775 = .ok (.lcmp, 1) := by decide +kernel
theorem dL_law_1776 : decode cL_law 1776 = .ok (.ifCond .eq 5, 3) := by decide +kernel
theorem dL_law_1779 : decode cL_law 1779 = .ok (.iconst 0, 1) := by decide +kernel
theorem dL_law_1780 : decode cL_law 1780 = .ok (.ireturn, 1) := by decide +kernel
theorem dL_law_1781 : decode cL_law 1781 = .ok (.goto 338, 3) := by decide +kernel
theorem dL_law_1784 : decode cL_law 1784 = .ok (.aload_n 1, 1) := by decide +kernel
theorem dL_law_1785 : decode cL_law 1785 = .ok (.aload_n 0, 1) := by decide +kernel
theorem dL_law_1786 : decode cL_law 1786 = .ok (.iload 5, 2) := by decide +kernel
theorem dL_law_1788 : decode cL_law 1788 = .ok (.iconst 1, 1) := by decide +kernel
theorem dL_law_1789 : decode cL_law 1789 = .ok (.iadd, 1) := by decide +kernel
theorem dL_law_1790 : decode cL_law 1790 = .ok (.iaload, 1) := by decide +kernel
theorem dL_law_1791 : decode cL_law 1791 = .ok (.aload_n 0, 1) := by decide +kernel
theorem dL_law_1792 : decode cL_law 1792 = .ok (.iload 5, 2) := by decide +kernel
theorem dL_law_1794 : decode cL_law 1794 = .ok (.iconst 2, 1) := by decide +kernel
theorem dL_law_1795 : decode cL_law 1795 = .ok (.iadd, 1) := by decide +kernel
theorem dL_law_1796 : decode cL_law 1796 = .ok (.iaload, 1) := by decide +kernel
theorem dL_law_1797 : decode cL_law 1797 = .ok (.aload_n 0, 1) := by decide +kernel
theorem dL_law_1798 : decode cL_law 1798 = .ok (.iload 5, 2) := by decide +kernel
theorem dL_law_1800 : decode cL_law 1800 = .ok (.iconst 3, 1) := by decide +kernel
theorem dL_law_1801 : decode cL_law 1801 = .ok (.iadd, 1) := by decide +kernel
theorem dL_law_1802 : decode cL_law 1802 = .ok (.iaload, 1) := by decide +kernel
theorem dL_law_1803 : decode cL_law 1803 = .ok (.ifCond .eq 7, 3) := by decide +kernel
theorem dL_law_1806 : decode cL_law 1806 = .ok (.iconst 1, 1) := by decide +kernel
theorem dL_law_1807 : decode cL_law 1807 = .ok (.goto 4, 3) := by decide +kernel
theorem dL_law_1810 : decode cL_law 1810 = .ok (.iconst 0, 1) := by decide +kernel
theorem dL_law_1811 : decode cL_law 1811 = .ok (.aload_n 3, 1) := by decide +kernel
theorem dL_law_1812 : decode cL_law 1812 = .ok (.invokestatic 226, 3) := by decide +kernel
theorem dL_law_1815 : decode cL_law 1815 = .ok (.istore 6, 2) := by decide +kernel
theorem dL_law_1817 : decode cL_law 1817 = .ok (.aload_n 2, 1) := by decide +kernel
theorem dL_law_1818 : decode cL_law 1818 = .ok (.aload_n 0, 1) := by decide +kernel
theorem dL_law_1819 : decode cL_law 1819 = .ok (.iload 5, 2) := by decide +kernel
theorem dL_law_1821 : decode cL_law 1821 = .ok (.iconst 1, 1) := by decide +kernel
theorem dL_law_1822 : decode cL_law 1822 = .ok (.iadd, 1) := by decide +kernel
theorem dL_law_1823 : decode cL_law 1823 = .ok (.iaload, 1) := by decide +kernel
theorem dL_law_1824 : decode cL_law 1824 = .ok (.aload_n 0, 1) := by decide +kernel
theorem dL_law_1825 : decode cL_law 1825 = .ok (.iload 5, 2) := by decide +kernel
theorem dL_law_1827 : decode cL_law 1827 = .ok (.iconst 2, 1) := by decide +kernel
theorem dL_law_1828 : decode cL_law 1828 = .ok (.iadd, 1) := by decide +kernel
theorem dL_law_1829 : decode cL_law 1829 = .ok (.iaload, 1) := by decide +kernel
theorem dL_law_1830 : decode cL_law 1830 = .ok (.aload_n 0, 1) := by decide +kernel
theorem dL_law_1831 : decode cL_law 1831 = .ok (.iload 5, 2) := by decide +kernel
theorem dL_law_1833 : decode cL_law 1833 = .ok (.iconst 3, 1) := by decide +kernel
theorem dL_law_1834 : decode cL_law 1834 = .ok (.iadd, 1) := by decide +kernel
theorem dL_law_1835 : decode cL_law 1835 = .ok (.iaload, 1) := by decide +kernel
theorem dL_law_1836 : decode cL_law 1836 = .ok (.ifCond .eq 7, 3) := by decide +kernel
theorem dL_law_1839 : decode cL_law 1839 = .ok (.iconst 1, 1) := by decide +kernel
theorem dL_law_1840 : decode cL_law 1840 = .ok (.goto 4, 3) := by decide +kernel
theorem dL_law_1843 : decode cL_law 1843 = .ok (.iconst 0, 1) := by decide +kernel
theorem dL_law_1844 : decode cL_law 1844 = .ok (.invokevirtual 229, 3) := by decide +kernel
theorem dL_law_1847 : decode cL_law 1847 = .ok (.istore 7, 2) := by decide +kernel
theorem dL_law_1849 : decode cL_law 1849 = .ok (.aload_n 2, 1) := by decide +kernel
theorem dL_law_1850 : decode cL_law 1850 = .ok (.invokevirtual 130, 3) := by decide +kernel
theorem dL_law_1853 : decode cL_law 1853 = .ok (.iload 6, 2) := by decide +kernel
theorem dL_law_1855 : decode cL_law 1855 = .ok (.if_icmp .eq 5, 3) := by decide +kernel
theorem dL_law_1858 : decode cL_law 1858 = .ok (.iconst 0, 1) := by decide +kernel
theorem dL_law_1859 : decode cL_law 1859 = .ok (.ireturn, 1) := by decide +kernel
theorem dL_law_1860 : decode cL_law 1860 = .ok (.iload 6, 2) := by decide +kernel
theorem dL_law_1862 : decode cL_law 1862 = .ok (.ifCond .ne 15, 3) := by decide +kernel
theorem dL_law_1865 : decode cL_law 1865 = .ok (.aload_n 3, 1) := by decide +kernel
theorem dL_law_1866 : decode cL_law 1866 = .ok (.iconst 0, 1) := by decide +kernel
theorem dL_law_1867 : decode cL_law 1867 = .ok (.laload, 1) := by decide +kernel
theorem dL_law_1868 : decode cL_law 1868 = .ok (.iload 7, 2) := by decide +kernel
theorem dL_law_1870 : decode cL_law 1870 = .ok (.i2l, 1) := by decide +kernel
theorem dL_law_1871 : decode cL_law 1871 = .ok (.lcmp, 1) := by decide +kernel
theorem dL_law_1872 : decode cL_law 1872 = .ok (.ifCond .eq 5, 3) := by decide +kernel
theorem dL_law_1875 : decode cL_law 1875 = .ok (.iconst 0, 1) := by decide +kernel
theorem dL_law_1876 : decode cL_law 1876 = .ok (.ireturn, 1) := by decide +kernel
theorem dL_law_1877 : decode cL_law 1877 = .ok (.goto 242, 3) := by decide +kernel
theorem dL_law_1880 : decode cL_law 1880 = .ok (.aload_n 1, 1) := by decide +kernel
theorem dL_law_1881 : decode cL_law 1881 = .ok (.aload_n 0, 1) := by decide +kernel
theorem dL_law_1882 : decode cL_law 1882 = .ok (.iload 5, 2) := by decide +kernel
theorem dL_law_1884 : decode cL_law 1884 = .ok (.iconst 1, 1) := by decide +kernel
theorem dL_law_1885 : decode cL_law 1885 = .ok (.iadd, 1) := by decide +kernel
theorem dL_law_1886 : decode cL_law 1886 = .ok (.iaload, 1) := by decide +kernel
theorem dL_law_1887 : decode cL_law 1887 = .ok (.aload_n 0, 1) := by decide +kernel
theorem dL_law_1888 : decode cL_law 1888 = .ok (.iload 5, 2) := by decide +kernel
theorem dL_law_1890 : decode cL_law 1890 = .ok (.iconst 2, 1) := by decide +kernel
theorem dL_law_1891 : decode cL_law 1891 = .ok (.iadd, 1) := by decide +kernel
theorem dL_law_1892 : decode cL_law 1892 = .ok (.iaload, 1) := by decide +kernel
theorem dL_law_1893 : decode cL_law 1893 = .ok (.aload_n 3, 1) := by decide +kernel
theorem dL_law_1894 : decode cL_law 1894 = .ok (.invokestatic 230, 3) := by decide +kernel
theorem dL_law_1897 : decode cL_law 1897 = .ok (.istore 6, 2) := by decide +kernel
theorem dL_law_1899 : decode cL_law 1899 = .ok (.aload_n 2, 1) := by decide +kernel
theorem dL_law_1900 : decode cL_law 1900 = .ok (.aload_n 0, 1) := by decide +kernel
theorem dL_law_1901 : decode cL_law 1901 = .ok (.iload 5, 2) := by decide +kernel
theorem dL_law_1903 : decode cL_law 1903 = .ok (.iconst 1, 1) := by decide +kernel
theorem dL_law_1904 : decode cL_law 1904 = .ok (.iadd, 1) := by decide +kernel
theorem dL_law_1905 : decode cL_law 1905 = .ok (.iaload, 1) := by decide +kernel
theorem dL_law_1906 : decode cL_law 1906 = .ok (.aload_n 0, 1) := by decide +kernel
theorem dL_law_1907 : decode cL_law 1907 = .ok (.iload 5, 2) := by decide +kernel
theorem dL_law_1909 : decode cL_law 1909 = .ok (.iconst 2, 1) := by decide +kernel
theorem dL_law_1910 : decode cL_law 1910 = .ok (.iadd, 1) := by decide +kernel
theorem dL_law_1911 : decode cL_law 1911 = .ok (.iaload, 1) := by decide +kernel
theorem dL_law_1912 : decode cL_law 1912 = .ok (.invokevirtual 232, 3) := by decide +kernel
theorem dL_law_1915 : decode cL_law 1915 = .ok (.istore 7, 2) := by decide +kernel
theorem dL_law_1917 : decode cL_law 1917 = .ok (.aload_n 2, 1) := by decide +kernel
theorem dL_law_1918 : decode cL_law 1918 = .ok (.invokevirtual 130, 3) := by decide +kernel
theorem dL_law_1921 : decode cL_law 1921 = .ok (.iload 6, 2) := by decide +kernel
theorem dL_law_1923 : decode cL_law 1923 = .ok (.if_icmp .eq 5, 3) := by decide +kernel
theorem dL_law_1926 : decode cL_law 1926 = .ok (.iconst 0, 1) := by decide +kernel
theorem dL_law_1927 : decode cL_law 1927 = .ok (.ireturn, 1) := by decide +kernel
theorem dL_law_1928 : decode cL_law 1928 = .ok (.iload 6, 2) := by decide +kernel
theorem dL_law_1930 : decode cL_law 1930 = .ok (.ifCond .ne 15, 3) := by decide +kernel
theorem dL_law_1933 : decode cL_law 1933 = .ok (.aload_n 3, 1) := by decide +kernel
theorem dL_law_1934 : decode cL_law 1934 = .ok (.iconst 0, 1) := by decide +kernel
theorem dL_law_1935 : decode cL_law 1935 = .ok (.laload, 1) := by decide +kernel
theorem dL_law_1936 : decode cL_law 1936 = .ok (.iload 7, 2) := by decide +kernel
theorem dL_law_1938 : decode cL_law 1938 = .ok (.i2l, 1) := by decide +kernel
theorem dL_law_1939 : decode cL_law 1939 = .ok (.lcmp, 1) := by decide +kernel
theorem dL_law_1940 : decode cL_law 1940 = .ok (.ifCond .eq 5, 3) := by decide +kernel
theorem dL_law_1943 : decode cL_law 1943 = .ok (.iconst 0, 1) := by decide +kernel
theorem dL_law_1944 : decode cL_law 1944 = .ok (.ireturn, 1) := by decide +kernel
theorem dL_law_1945 : decode cL_law 1945 = .ok (.goto 174, 3) := by decide +kernel
theorem dL_law_1948 : decode cL_law 1948 = .ok (.aload_n 1, 1) := by decide +kernel
theorem dL_law_1949 : decode cL_law 1949 = .ok (.invokevirtual 233, 3) := by decide +kernel
theorem dL_law_1952 : decode cL_law 1952 = .ok (.aload_n 2, 1) := by decide +kernel
theorem dL_law_1953 : decode cL_law 1953 = .ok (.invokevirtual 236, 3) := by decide +kernel
theorem dL_law_1956 : decode cL_law 1956 = .ok (.if_icmp .eq 163, 3) := by decide +kernel
theorem dL_law_1959 : decode cL_law 1959 = .ok (.iconst 0, 1) := by decide +kernel
theorem dL_law_1960 : decode cL_law 1960 = .ok (.ireturn, 1) := by decide +kernel
theorem dL_law_1961 : decode cL_law 1961 = .ok (.aload_n 1, 1) := by decide +kernel
theorem dL_law_1962 : decode cL_law 1962 = .ok (.invokevirtual 237, 3) := by decide +kernel
theorem dL_law_1965 : decode cL_law 1965 = .ok (.aload_n 2, 1) := by decide +kernel
theorem dL_law_1966 : decode cL_law 1966 = .ok (.invokevirtual 241, 3) := by decide +kernel
theorem dL_law_1969 : decode cL_law 1969 = .ok (.lcmp, 1) := by decide +kernel
theorem dL_law_1970 : decode cL_law 1970 = .ok (.ifCond .eq 149, 3) := by decide +kernel
theorem dL_law_1973 : decode cL_law 1973 = .ok (.iconst 0, 1) := by decide +kernel
theorem dL_law_1974 : decode cL_law 1974 = .ok (.ireturn, 1) := by decide +kernel
theorem dL_law_1975 : decode cL_law 1975 = .ok (.aload_n 1, 1) := by decide +kernel
theorem dL_law_1976 : decode cL_law 1976 = .ok (.aload 4, 2) := by decide +kernel
theorem dL_law_1978 : decode cL_law 1978 = .ok (.invokestatic 242, 3) := by decide +kernel
theorem dL_law_1981 : decode cL_law 1981 = .ok (.istore 6, 2) := by decide +kernel
theorem dL_law_1983 : decode cL_law 1983 = .ok (.aload_n 2, 1) := by decide +kernel
theorem dL_law_1984 : decode cL_law 1984 = .ok (.invokevirtual 245, 3) := by decide +kernel
theorem dL_law_1987 : decode cL_law 1987 = .ok (.fstore 7, 2) := by decide +kernel
theorem dL_law_1989 : decode cL_law 1989 = .ok (.aload_n 2, 1) := by decide +kernel
theorem dL_law_1990 : decode cL_law 1990 = .ok (.invokevirtual 130, 3) := by decide +kernel
theorem dL_law_1993 : decode cL_law 1993 = .ok (.iload 6, 2) := by decide +kernel
theorem dL_law_1995 : decode cL_law 1995 = .ok (.if_icmp .eq 5, 3) := by decide +kernel
theorem dL_law_1998 : decode cL_law 1998 = .ok (.iconst 0, 1) := by decide +kernel
theorem dL_law_1999 : decode cL_law 1999 = .ok (.ireturn, 1) := by decide +kernel
theorem dL_law_2000 : decode cL_law 2000 = .ok (.iload 6, 2) := by decide +kernel
theorem dL_law_2002 : decode cL_law 2002 = .ok (.ifCond .ne 36, 3) := by decide +kernel
theorem dL_law_2005 : decode cL_law 2005 = .ok (.aload 4, 2) := by decide +kernel
theorem dL_law_2007 : decode cL_law 2007 = .ok (.iconst 0, 1) := by decide +kernel
theorem dL_law_2008 : decode cL_law 2008 = .ok (.daload, 1) := by decide +kernel
theorem dL_law_2009 : decode cL_law 2009 = .ok (.fload 7, 2) := by decide +kernel
theorem dL_law_2011 : decode cL_law 2011 = .ok (.f2d, 1) := by decide +kernel
theorem dL_law_2012 : decode cL_law 2012 = .ok (.dcmp .l, 1) := by decide +kernel
theorem dL_law_2013 : decode cL_law 2013 = .ok (.ifCond .eq 25, 3) := by decide +kernel
theorem dL_law_2016 : decode cL_law 2016 = .ok (.aload 4, 2) := by decide +kernel
theorem dL_law_2018 : decode cL_law 2018 = .ok (.iconst 0, 1) := by decide +kernel
theorem dL_law_2019 : decode cL_law 2019 = .ok (.daload, 1) := by decide +kernel
theorem dL_law_2020 : decode cL_law 2020 = .ok (.aload 4, 2) := by decide +kernel
theorem dL_law_2022 : decode cL_law 2022 = .ok (.iconst 0, 1) := by decide +kernel
theorem dL_law_2023 : decode cL_law 2023 = .ok (.daload, 1) := by decide +kernel
theorem dL_law_2024 : decode cL_law 2024 = .ok (.dcmp .l, 1) := by decide +kernel
theorem dL_law_2025 : decode cL_law 2025 = .ok (.ifCond .eq 11, 3) := by decide +kernel
theorem dL_law_2028 : decode cL_law 2028 = .ok (.fload 7, 2) := by decide +kernel
theorem dL_law_2030 : decode cL_law 2030 = .ok (.fload 7, 2) := by decide +kernel
theorem dL_law_2032 : decode cL_law 2032 = .ok (.fcmp .l, 1) := by decide +kernel
theorem dL_law_2033 : decode cL_law 2033 = .ok (.ifCond .ne 5, 3) := by decide +kernel
theorem dL_law_2036 : decode cL_law 2036 = .ok (.iconst 0, 1) := by decide +kernel
theorem dL_law_2037 : decode cL_law 2037 = .ok (.ireturn, 1) := by decide +kernel
theorem dL_law_2038 : decode cL_law 2038 = .ok (.goto 81, 3) := by decide +kernel
theorem dL_law_2041 : decode cL_law 2041 = .ok (.aload_n 1, 1) := by decide +kernel
theorem dL_law_2042 : decode cL_law 2042 = .ok (.aload 4, 2) := by decide +kernel
theorem dL_law_2044 : decode cL_law 2044 = .ok (.invokestatic 246, 3) := by decide +kernel
theorem dL_law_2047 : decode cL_law 2047 = .ok (.istore 6, 2) := by decide +kernel
theorem dL_law_2049 : decode cL_law 2049 = .ok (.aload_n 2, 1) := by decide +kernel
theorem dL_law_2050 : decode cL_law 2050 = .ok (.invokevirtual 248, 3) := by decide +kernel
theorem dL_law_2053 : decode cL_law 2053 = .ok (.dstore 7, 2) := by decide +kernel
theorem dL_law_2055 : decode cL_law 2055 = .ok (.aload_n 2, 1) := by decide +kernel
theorem dL_law_2056 : decode cL_law 2056 = .ok (.invokevirtual 130, 3) := by decide +kernel
theorem dL_law_2059 : decode cL_law 2059 = .ok (.iload 6, 2) := by decide +kernel
theorem dL_law_2061 : decode cL_law 2061 = .ok (.if_icmp .eq 5, 3) := by decide +kernel
theorem dL_law_2064 : decode cL_law 2064 = .ok (.iconst 0, 1) := by decide +kernel
theorem dL_law_2065 : decode cL_law 2065 = .ok (.ireturn, 1) := by decide +kernel
theorem dL_law_2066 : decode cL_law 2066 = .ok (.iload 6, 2) := by decide +kernel
theorem dL_law_2068 : decode cL_law 2068 = .ok (.ifCond .ne 35, 3) := by decide +kernel
theorem dL_law_2071 : decode cL_law 2071 = .ok (.aload 4, 2) := by decide +kernel
theorem dL_law_2073 : decode cL_law 2073 = .ok (.iconst 0, 1) := by decide +kernel
theorem dL_law_2074 : decode cL_law 2074 = .ok (.daload, 1) := by decide +kernel
theorem dL_law_2075 : decode cL_law 2075 = .ok (.dload 7, 2) := by decide +kernel
theorem dL_law_2077 : decode cL_law 2077 = .ok (.dcmp .l, 1) := by decide +kernel
theorem dL_law_2078 : decode cL_law 2078 = .ok (.ifCond .eq 25, 3) := by decide +kernel
theorem dL_law_2081 : decode cL_law 2081 = .ok (.aload 4, 2) := by decide +kernel
theorem dL_law_2083 : decode cL_law 2083 = .ok (.iconst 0, 1) := by decide +kernel
theorem dL_law_2084 : decode cL_law 2084 = .ok (.daload, 1) := by decide +kernel
theorem dL_law_2085 : decode cL_law 2085 = .ok (.aload 4, 2) := by decide +kernel
theorem dL_law_2087 : decode cL_law 2087 = .ok (.iconst 0, 1) := by decide +kernel
theorem dL_law_2088 : decode cL_law 2088 = .ok (.daload, 1) := by decide +kernel
theorem dL_law_2089 : decode cL_law 2089 = .ok (.dcmp .l, 1) := by decide +kernel
theorem dL_law_2090 : decode cL_law 2090 = .ok (.ifCond .eq 11, 3) := by decide +kernel
theorem dL_law_2093 : decode cL_law 2093 = .ok (.dload 7, 2) := by decide +kernel
theorem dL_law_2095 : decode cL_law 2095 = .ok (.dload 7, 2) := by decide +kernel
theorem dL_law_2097 : decode cL_law 2097 = .ok (.dcmp .l, 1) := by decide +kernel
theorem dL_law_2098 : decode cL_law 2098 = .ok (.ifCond .ne 5, 3) := by decide +kernel
theorem dL_law_2101 : decode cL_law 2101 = .ok (.iconst 0, 1) := by decide +kernel
theorem dL_law_2102 : decode cL_law 2102 = .ok (.ireturn, 1) := by decide +kernel
theorem dL_law_2103 : decode cL_law 2103 = .ok (.goto 16, 3) := by decide +kernel
theorem dL_law_2106 : decode cL_law 2106 = .ok (.aload_n 1, 1) := by decide +kernel
theorem dL_law_2107 : decode cL_law 2107 = .ok (.invokevirtual 249, 3) := by decide +kernel
theorem dL_law_2110 : decode cL_law 2110 = .ok (.aload_n 2, 1) := by decide +kernel
theorem dL_law_2111 : decode cL_law 2111 = .ok (.invokevirtual 253, 3) := by decide +kernel
theorem dL_law_2114 : decode cL_law 2114 = .ok (.if_icmp .eq 5, 3) := by decide +kernel
theorem dL_law_2117 : decode cL_law 2117 = .ok (.iconst 0, 1) := by decide +kernel
theorem dL_law_2118 : decode cL_law 2118 = .ok (.ireturn, 1) := by decide +kernel
theorem dL_law_2119 : decode cL_law 2119 = .ok (.iinc 5 5, 3) := by decide +kernel
theorem dL_law_2122 : decode cL_law 2122 = .ok (.goto (-2094), 3) := by decide +kernel
theorem dL_law_2125 : decode cL_law 2125 = .ok (.iconst 1, 1) := by decide +kernel
theorem dL_law_2126 : decode cL_law 2126 = .ok (.ireturn, 1) := by decide +kernel
end
section
theorem dJ5_init_d00df_0 : decode cJ5_init_d00df 0 = .ok (.aload_n 0, 1) := by decide +kernel
theorem dJ5_init_d00df_1 : decode cJ5_init_d00df 1 = .ok (.invokespecial 3, 3) := by decide +kernel
theorem dJ5_init_d00df_4 : decode cJ5_init_d00df 4 = .ok (.getstatic 18, 3) := by decide +kernel
theorem dJ5_init_d00df_7 : decode cJ5_init_d00df 7 = .ok (.ifCond .eq 18, 3) := by decide +kernel
theorem dJ5_init_d00df_10 : decode cJ5_init_d00df 10 = .ok (.aload_n 0, 1) := by decide +kernel
theorem dJ5_init_d00df_11 : decode cJ5_init_d00df 11 = .ok (.iload_n 1, 1) := by decide +kernel
theorem dJ5_init_d00df_12 : decode cJ5_init_d00df 12 = .ok (.newarray .byte, 2) := by decide +kernel
theorem dJ5_init_d00df_14 : decode cJ5_init_d00df 14 = .ok (.putfield 15, 3) := by decide +kernel
theorem dJ5_init_d00df_17 : decode cJ5_init_d00df 17 = .ok (.aload_n 0, 1) := by decide +kernel
theorem dJ5_init_d00df_18 : decode cJ5_init_d00df 18 = .ok (.iconst 0, 1) := by decide +kernel
theorem dJ5_init_d00df_19 : decode cJ5_init_d00df 19 = .ok (.putfield 22, 3) := by decide +kernel
theorem dJ5_init_d00df_22 : decode cJ5_init_d00df 22 = .ok (.goto 16, 3) := by decide +kernel
theorem dJ5_init_d00df_25 : decode cJ5_init_d00df 25 = .ok (.aload_n 0, 1) := by decide +kernel
theorem dJ5_init_d00df_26 : decode cJ5_init_d00df 26 = .ok (.iload_n 1, 1) := by decide +kernel
theorem dJ5_init_d00df_27 : decode cJ5_init_d00df 27 = .ok (.invokestatic 26, 3) := by decide +kernel
theorem dJ5_init_d00df_30 : decode cJ5_init_d00df 30 = .ok (.putfield 15, 3) := by decide +kernel
theorem dJ5_init_d00df_33 : decode cJ5_init_d00df 33 = .ok (.aload_n 0, 1) := by decide +kernel
theorem dJ5_init_d00df_34 : decode cJ5_init_d00df 34 = .ok (.iconst 1, 1) := by decide +kernel
theorem dJ5_init_d00df_35 : decode cJ5_init_d00df 35 = .ok (.putfield 22, 3) := by decide +kernel
theorem dJ5_init_d00df_38 : decode cJ5_init_d00df 38 = .ok (.return_, 1) := by decide +kernel
theorem dJ5_length_8abf5_0 : decode cJ5_length_8abf5 0 = .ok (.aload_n 0, 1) := by decide +kernel
theorem dJ5_length_8abf5_1 : decode cJ5_length_8abf5 1 = .ok (.getfield 79, 3) := by decide +kernel
theorem dJ5_length_8abf5_4 : decode cJ5_length_8abf5 4 = .ok (.ireturn, 1) := by decide +kernel
theorem dJ5_ensureCapacityInternal_d00df_0 : decode cJ5_ensureCapacityInternal_d00df 0 = .ok (.aload_n 0, 1) := by decide +kernel
theorem dJ5_ensureCapacityInternal_d00df_1 : decode cJ5_ensureCapacityInternal_d00df 1 = .ok (.getfield 15, 3) := by decide +kernel
theorem dJ5_ensureCapacityInternal_d00df_4 : decode cJ5_ensureCapacityInternal_d00df 4 = .ok (.arraylength, 1) := by decide +kernel
theorem dJ5_ensureCapacityInternal_d00df_5 : decode cJ5_ensureCapacityInternal_d00df 5 = .ok (.aload_n 0, 1) := by decide +kernel
theorem dJ5_ensureCapacityInternal_d00df_6 : decode cJ5_ensureCapacityInternal_d00df 6 = .ok (.getfield 22, 3) := by decide +kernel
theorem dJ5_ensureCapacityInternal_d00df_9 : decode cJ5_ensureCapacityInternal_d00df 9 = .ok (.ishr, 1) := by decide +kernel
theorem dJ5_ensureCapacityInternal_d00df_10 : decode cJ5_ensureCapacityInternal_d00df 10 = .ok (.istore_n 2, 1) := by decide +kernel
theorem dJ5_ensureCapacityInternal_d00df_11 : decode cJ5_ensureCapacityInternal_d00df 11 = .ok (.iload_n 1, 1) := by decide +kernel
theorem dJ5_ensureCapacityInternal_d00df_12 : decode cJ5_ensureCapacityInternal_d00df 12 = .ok (.iload_n 2, 1) := by decide +kernel
theorem dJ5_ensureCapacityInternal_d00df_13 : decode cJ5_ensureCapacityInternal_d00df 13 = .ok (.isub, 1) := by decide +kernel
theorem dJ5_ensureCapacityInternal_d00df_14 : decode cJ5_ensureCapacityInternal_d00df 14 = .ok (.ifCond .le 24, 3) := by decide +kernel
theorem dJ5_ensureCapacityInternal_d00df_17 : decode cJ5_ensureCapacityInternal_d00df 17 = .ok (.aload_n 0, 1) := by decide +kernel
theorem dJ5_ensureCapacityInternal_d00df_18 : decode cJ5_ensureCapacityInternal_d00df 18 = .ok (.aload_n 0, 1) := by decide +kernel
theorem dJ5_ensureCapacityInternal_d00df_19 : decode cJ5_ensureCapacityInternal_d00df 19 = .ok (.getfield 15, 3) := by decide +kernel
theorem dJ5_ensureCapacityInternal_d00df_22 : decode cJ5_ensureCapacityInternal_d00df 22 = .ok (.aload_n 0, 1) := by decide +kernel
theorem dJ5_ensureCapacityInternal_d00df_23 : decode cJ5_ensureCapacityInternal_d00df 23 = .ok (.iload_n 1, 1) := by decide +kernel
theorem dJ5_ensureCapacityInternal_d00df_24 : decode cJ5_ensureCapacityInternal_d00df 24 = .ok (.invokevirtual 104, 3) := by decide +kernel
theorem dJ5_ensureCapacityInternal_d00df_27 : decode cJ5_ensureCapacityInternal_d00df 27 = .ok (.aload_n 0, 1) := by decide +kernel
theorem dJ5_ensureCapacityInternal_d00df_28 : decode cJ5_ensureCapacityInternal_d00df 28 = .ok (.getfield 22, 3) := by decide +kernel
theorem dJ5_ensureCapacityInternal_d00df_31 : decode cJ5_ensureCapacityInternal_d00df 31 = .ok (.ishl, 1) := by decide +kernel
theorem dJ5_ensureCapacityInternal_d00df_32 : decode cJ5_ensureCapacityInternal_d00df 32 = .ok (.invokestatic 108, 3) := by decide +kernel
theorem dJ5_ensureCapacityInternal_d00df_35 : decode cJ5_ensureCapacityInternal_d00df 35 = .ok (.putfield 15, 3) := by decide +kernel
theorem dJ5_ensureCapacityInternal_d00df_38 : decode cJ5_ensureCapacityInternal_d00df 38 = .ok (.return_, 1) := by decide +kernel
theorem dJ5_newCapacity_0f7a4_0 : decode cJ5_newCapacity_0f7a4 0 = .ok (.aload_n 0, 1) := by decide +kernel
theorem dJ5_newCapacity_0f7a4_1 : decode cJ5_newCapacity_0f7a4 1 = .ok (.getfield 15, 3) := by decide +kernel
theorem dJ5_newCapacity_0f7a4_4 : decode cJ5_newCapacity_0f7a4 4 = .ok (.arraylength, 1) := by decide +kernel
theorem dJ5_newCapacity_0f7a4_5 : decode cJ5_newCapacity_0f7a4 5 = .ok (.istore_n 2, 1) := by decide +kernel
theorem dJ5_newCapacity_0f7a4_6 : decode cJ5_newCapacity_0f7a4 6 = .ok (.iload_n 1, 1) := by decide +kernel
theorem dJ5_newCapacity_0f7a4_7 : decode cJ5_newCapacity_0f7a4 7 = .ok (.aload_n 0, 1) := by decide +kernel
theorem dJ5_newCapacity_0f7a4_8 : decode cJ5_newCapacity_0f7a4 8 = .ok (.getfield 22, 3) := by decide +kernel
theorem dJ5_newCapacity_0f7a4_11 : decode cJ5_newCapacity_0f7a4 11 = .ok (.ishl, 1) := by decide +kernel
theorem dJ5_newCapacity_0f7a4_12 : decode cJ5_newCapacity_0f7a4 12 = .ok (.istore_n 3, 1) := by decide +kernel
theorem dJ5_newCapacity_0f7a4_13 : decode cJ5_newCapacity_0f7a4 13 = .ok (.iload_n 3, 1) := by decide +kernel
theorem dJ5_newCapacity_0f7a4_14 : decode cJ5_newCapacity_0f7a4 14 = .ok (.iload_n 2, 1) := by decide +kernel
theorem dJ5_newCapacity_0f7a4_15 : decode cJ5_newCapacity_0f7a4 15 = .ok (.isub, 1) := by decide +kernel
theorem dJ5_newCapacity_0f7a4_16 : decode cJ5_newCapacity_0f7a4 16 = .ok (.istore 4, 2) := by decide +kernel
theorem dJ5_newCapacity_0f7a4_18 : decode cJ5_newCapacity_0f7a4 18 = .ok (.iload_n 2, 1) := by decide +kernel
theorem dJ5_newCapacity_0f7a4_19 : decode cJ5_newCapacity_0f7a4 19 = .ok (.iload 4, 2) := by decide +kernel
theorem dJ5_newCapacity_0f7a4_21 : decode cJ5_newCapacity_0f7a4 21 = .ok (.iload_n 2, 1) := by decide +kernel
theorem dJ5_newCapacity_0f7a4_22 : decode cJ5_newCapacity_0f7a4 22 = .ok (.iconst 2, 1) := by decide +kernel
theorem dJ5_newCapacity_0f7a4_23 : decode cJ5_newCapacity_0f7a4 23 = .ok (.aload_n 0, 1) := by decide +kernel
theorem dJ5_newCapacity_0f7a4_24 : decode cJ5_newCapacity_0f7a4 24 = .ok (.getfield 22, 3) := by decide +kernel
theorem dJ5_newCapacity_0f7a4_27 : decode cJ5_newCapacity_0f7a4 27 = .ok (.ishl, 1) := by decide +kernel
theorem dJ5_newCapacity_0f7a4_28 : decode cJ5_newCapacity_0f7a4 28 = .ok (.iadd, 1) := by decide +kernel
theorem dJ5_newCapacity_0f7a4_29 : decode cJ5_newCapacity_0f7a4 29 = .ok (.invokestatic 114, 3) := by decide +kernel
theorem dJ5_newCapacity_0f7a4_32 : decode cJ5_newCapacity_0f7a4 32 = .ok (.istore 5, 2) := by decide +kernel
theorem dJ5_newCapacity_0f7a4_34 : decode cJ5_newCapacity_0f7a4 34 = .ok (.iload 5, 2) := by decide +kernel
theorem dJ5_newCapacity_0f7a4_36 : decode cJ5_newCapacity_0f7a4 36 = .ok (.ldc 39, 2) := by decide +kernel
theorem dJ5_newCapacity_0f7a4_38 : decode cJ5_newCapacity_0f7a4 38 = .ok (.if_icmp .ne 13, 3) := by decide +kernel
theorem dJ5_newCapacity_0f7a4_41 : decode cJ5_newCapacity_0f7a4 41 = .ok (.new 120, 3) := by decide +kernel
theorem dJ5_newCapacity_0f7a4_44 : decode cJ5_newCapacity_0f7a4 44 = .ok (.dup, 1) := by decide +kernel
theorem dJ5_newCapacity_0f7a4_45 : decode cJ5_newCapacity_0f7a4 45 = .ok (.ldc 122, 2) := by decide +kernel
theorem dJ5_newCapacity_0f7a4_47 : decode cJ5_newCapacity_0f7a4 47 = .ok (.invokespecial 124, 3) := by decide +kernel
theorem dJ5_newCapacity_0f7a4_50 : decode cJ5_newCapacity_0f7a4 50 = .ok (.athrow, 1) := by decide +kernel
theorem dJ5_newCapacity_0f7a4_51 : decode cJ5_newCapacity_0f7a4 51 = .ok (.iload 5, 2) := by decide +kernel
theorem dJ5_newCapacity_0f7a4_53 : decode cJ5_newCapacity_0f7a4 53 = .ok (.aload_n 0, 1) := by decide +kernel
theorem dJ5_newCapacity_0f7a4_54 : decode cJ5_newCapacity_0f7a4 54 = .ok (.getfield 22, 3) := by decide +kernel
theorem dJ5_newCapacity_0f7a4_57 : decode cJ5_newCapacity_0f7a4 57 = .ok (.ishr, 1) := by decide +kernel
theorem dJ5_newCapacity_0f7a4_58 : decode cJ5_newCapacity_0f7a4 58 = .ok (.ireturn, 1) := by decide +kernel
theorem dJ5_inflate_da8c8_0 : decode cJ5_inflate_da8c8 0 = .ok (.aload_n 0, 1) := by decide +kernel
theorem dJ5_inflate_da8c8_1 : decode cJ5_inflate_da8c8 1 = .ok (.invokevirtual 83, 3) := by decide +kernel
theorem dJ5_inflate_da8c8_4 : decode cJ5_inflate_da8c8 4 = .ok (.ifCond .ne 4, 3) := by decide +kernel
theorem dJ5_inflate_da8c8_7 : decode cJ5_inflate_da8c8 7 = .ok (.return_, 1) := by decide +kernel
theorem dJ5_inflate_da8c8_8 : decode cJ5_inflate_da8c8 8 = .ok (.aload_n 0, 1) := by decide +kernel
theorem dJ5_inflate_da8c8_9 : decode cJ5_inflate_da8c8 9 = .ok (.getfield 15, 3) := by decide +kernel
theorem dJ5_inflate_da8c8_12 : decode cJ5_inflate_da8c8 12 = .ok (.arraylength, 1) := by decide +kernel
theorem dJ5_inflate_da8c8_13 : decode cJ5_inflate_da8c8 13 = .ok (.invokestatic 26, 3) := by decide +kernel
theorem dJ5_inflate_da8c8_16 : decode cJ5_inflate_da8c8 16 = .ok (.astore_n 1, 1) := by decide +kernel
theorem dJ5_inflate_da8c8_17 : decode cJ5_inflate_da8c8 17 = .ok (.aload_n 0, 1) := by decide +kernel
theorem dJ5_inflate_da8c8_18 : decode cJ5_inflate_da8c8 18 = .ok (.getfield 15, 3) := by decide +kernel
theorem dJ5_inflate_da8c8_21 : decode cJ5_inflate_da8c8 21 = .ok (.iconst 0, 1) := by decide +kernel
theorem dJ5_inflate_da8c8_22 : decode cJ5_inflate_da8c8 22 = .ok (.aload_n 1, 1) := by decide +kernel
theorem dJ5_inflate_da8c8_23 : decode cJ5_inflate_da8c8 23 = .ok (.iconst 0, 1) := by decide +kernel
theorem dJ5_inflate_da8c8_24 : decode cJ5_inflate_da8c8 24 = .ok (.aload_n 0, 1) := by decide +kernel
theorem dJ5_inflate_da8c8_25 : decode cJ5_inflate_da8c8 25 = .ok (.getfield 79, 3) := by decide +kernel
theorem dJ5_inflate_da8c8_28 : decode cJ5_inflate_da8c8 28 = .ok (.invokestatic 125, 3) := by decide +kernel
theorem dJ5_inflate_da8c8_31 : decode cJ5_inflate_da8c8 31 = .ok (.aload_n 0, 1) := by decide +kernel
theorem dJ5_inflate_da8c8_32 : decode cJ5_inflate_da8c8 32 = .ok (.aload_n 1, 1) := by decide +kernel
theorem dJ5_inflate_da8c8_33 : decode cJ5_inflate_da8c8 33 = .ok (.putfield 15, 3) := by decide +kernel
theorem dJ5_inflate_da8c8_36 : decode cJ5_inflate_da8c8 36 = .ok (.aload_n 0, 1) := by decide +kernel
theorem dJ5_inflate_da8c8_37 : decode cJ5_inflate_da8c8 37 = .ok (.iconst 1, 1) := by decide +kernel
theorem dJ5_inflate_da8c8_38 : decode cJ5_inflate_da8c8 38 = .ok (.putfield 22, 3) := by decide +kernel
theorem dJ5_inflate_da8c8_41 : decode cJ5_inflate_da8c8 41 = .ok (.return_, 1) := by decide +kernel
theorem dJ5_setLength_d00df_0 : decode cJ5_setLength_d00df 0 = .ok (.iload_n 1, 1) := by decide +kernel
theorem dJ5_setLength_d00df_1 : decode cJ5_setLength_d00df 1 = .ok (.ifCond .ge 12, 3) := by decide +kernel
theorem dJ5_setLength_d00df_4 : decode cJ5_setLength_d00df 4 = .ok (.new 129, 3) := by decide +kernel
theorem dJ5_setLength_d00df_7 : decode cJ5_setLength_d00df 7 = .ok (.dup, 1) := by decide +kernel
theorem dJ5_setLength_d00df_8 : decode cJ5_setLength_d00df 8 = .ok (.iload_n 1, 1) := by decide +kernel
theorem dJ5_setLength_d00df_9 : decode cJ5_setLength_d00df 9 = .ok (.invokespecial 131, 3) := by decide +kernel
theorem dJ5_setLength_d00df_12 : decode cJ5_setLength_d00df 12 = .ok (.athrow, 1) := by decide +kernel
theorem dJ5_setLength_d00df_13 : decode cJ5_setLength_d00df 13 = .ok (.aload_n 0, 1) := by decide +kernel
theorem dJ5_setLength_d00df_14 : decode cJ5_setLength_d00df 14 = .ok (.iload_n 1, 1) := by decide +kernel
theorem dJ5_setLength_d00df_15 : decode cJ5_setLength_d00df 15 = .ok (.invokevirtual 100, 3) := by decide +kernel
theorem dJ5_setLength_d00df_18 : decode cJ5_setLength_d00df 18 = .ok (.aload_n 0, 1) := by decide +kernel
theorem dJ5_setLength_d00df_19 : decode cJ5_setLength_d00df 19 = .ok (.getfield 79, 3) := by decide +kernel
theorem dJ5_setLength_d00df_22 : decode cJ5_setLength_d00df 22 = .ok (.iload_n 1, 1) := by decide +kernel
theorem dJ5_setLength_d00df_23 : decode cJ5_setLength_d00df 23 = .ok (.if_icmp .ge 40, 3) := by decide +kernel
theorem dJ5_setLength_d00df_26 : decode cJ5_setLength_d00df 26 = .ok (.aload_n 0, 1) := by decide +kernel
theorem dJ5_setLength_d00df_27 : decode cJ5_setLength_d00df 27 = .ok (.invokevirtual 83, 3) := by decide +kernel
theorem dJ5_setLength_d00df_30 : decode cJ5_setLength_d00df 30 = .ok (.ifCond .eq 18, 3) := by decide +kernel
theorem dJ5_setLength_d00df_33 : decode cJ5_setLength_d00df 33 = .ok (.aload_n 0, 1) := by decide +kernel
theorem dJ5_setLength_d00df_34 : decode cJ5_setLength_d00df 34 = .ok (.getfield 15, 3) := by decide +kernel
theorem dJ5_setLength_d00df_37 : decode cJ5_setLength_d00df 37 = .ok (.aload_n 0, 1) := by decide +kernel
theorem dJ5_setLength_d00df_38 : decode cJ5_setLength_d00df 38 = .ok (.getfield 79, 3) := by decide +kernel
theorem dJ5_setLength_d00df_41 : decode cJ5_setLength_d00df 41 = .ok (.iload_n 1, 1) := by decide +kernel
theorem dJ5_setLength_d00df_42 : decode cJ5_setLength_d00df 42 = .ok (.invokestatic 133, 3) := by decide +kernel
theorem dJ5_setLength_d00df_45 : decode cJ5_setLength_d00df 45 = .ok (.goto 31, 3) := by decide +kernel
theorem dJ5_setLength_d00df_48 : decode cJ5_setLength_d00df 48 = .ok (.aload_n 0, 1) := by decide +kernel
theorem dJ5_setLength_d00df_49 : decode cJ5_setLength_d00df 49 = .ok (.getfield 15, 3) := by decide +kernel
theorem dJ5_setLength_d00df_52 : decode cJ5_setLength_d00df 52 = .ok (.aload_n 0, 1) := by decide +kernel
theorem dJ5_setLength_d00df_53 : decode cJ5_setLength_d00df 53 = .ok (.getfield 79, 3) := by decide +kernel
theorem dJ5_setLength_d00df_56 : decode cJ5_setLength_d00df 56 = .ok (.iload_n 1, 1) := by decide +kernel
theorem dJ5_setLength_d00df_57 : decode cJ5_setLength_d00df 57 = .ok (.invokestatic 137, 3) := by decide +kernel
theorem dJ5_setLength_d00df_60 : decode cJ5_setLength_d00df 60 = .ok (.goto 16, 3) := by decide +kernel
theorem dJ5_setLength_d00df_63 : decode cJ5_setLength_d00df 63 = .ok (.aload_n 0, 1) := by decide +kernel
theorem dJ5_setLength_d00df_64 : decode cJ5_setLength_d00df 64 = .ok (.getfield 79, 3) := by decide +kernel
theorem dJ5_setLength_d00df_67 : decode cJ5_setLength_d00df 67 = .ok (.iload_n 1, 1) := by decide +kernel
theorem dJ5_setLength_d00df_68 : decode cJ5_setLength_d00df 68 = .ok (.if_icmp .le 8, 3) := by decide +kernel
theorem dJ5_setLength_d00df_71 : decode cJ5_setLength_d00df 71 = .ok (.aload_n 0, 1) := by decide +kernel
theorem dJ5_setLength_d00df_72 : decode cJ5_setLength_d00df 72 = .ok (.iconst 1, 1) := by decide +kernel
theorem dJ5_setLength_d00df_73 : decode cJ5_setLength_d00df 73 = .ok (.putfield 73, 3) := by decide +kernel
theorem dJ5_setLength_d00df_76 : decode cJ5_setLength_d00df 76 = .ok (.aload_n 0, 1) := by decide +kernel
theorem dJ5_setLength_d00df_77 : decode cJ5_setLength_d00df 77 = .ok (.iload_n 1, 1) := by decide +kernel
theorem dJ5_setLength_d00df_78 : decode cJ5_setLength_d00df 78 = .ok (.putfield 79, 3) := by decide +kernel
theorem dJ5_setLength_d00df_81 : decode cJ5_setLength_d00df 81 = .ok (.return_, 1) := by decide +kernel
theorem dJ5_charAt_5068e_0 : decode cJ5_charAt_5068e 0 = .ok (.aload_n 0, 1) := by decide +kernel
theorem dJ5_charAt_5068e_1 : decode cJ5_charAt_5068e 1 = .ok (.getfield 22, 3) := by decide +kernel
theorem dJ5_charAt_5068e_4 : decode cJ5_charAt_5068e 4 = .ok (.istore_n 2, 1) := by decide +kernel
theorem dJ5_charAt_5068e_5 : decode cJ5_charAt_5068e 5 = .ok (.aload_n 0, 1) := by decide +kernel
theorem dJ5_charAt_5068e_6 : decode cJ5_charAt_5068e 6 = .ok (.getfield 15, 3) := by decide +kernel
theorem dJ5_charAt_5068e_9 : decode cJ5_charAt_5068e 9 = .ok (.astore_n 3, 1) := by decide +kernel
theorem dJ5_charAt_5068e_10 : decode cJ5_charAt_5068e 10 = .ok (.aload_n 0, 1) := by decide +kernel
theorem dJ5_charAt_5068e_11 : decode cJ5_charAt_5068e 11 = .ok (.getfield 79, 3) := by decide +kernel
theorem dJ5_charAt_5068e_14 : decode cJ5_charAt_5068e 14 = .ok (.aload_n 3, 1) := by decide +kernel
theorem dJ5_charAt_5068e_15 : decode cJ5_charAt_5068e 15 = .ok (.arraylength, 1) := by decide +kernel
theorem dJ5_charAt_5068e_16 : decode cJ5_charAt_5068e 16 = .ok (.iload_n 2, 1) := by decide +kernel
theorem dJ5_charAt_5068e_17 : decode cJ5_charAt_5068e 17 = .ok (.ishr, 1) := by decide +kernel
theorem dJ5_charAt_5068e_18 : decode cJ5_charAt_5068e 18 = .ok (.invokestatic 138, 3) := by decide +kernel
theorem dJ5_charAt_5068e_21 : decode cJ5_charAt_5068e 21 = .ok (.istore 4, 2) := by decide +kernel
theorem dJ5_charAt_5068e_23 : decode cJ5_charAt_5068e 23 = .ok (.iload_n 1, 1) := by decide +kernel
theorem dJ5_charAt_5068e_24 : decode cJ5_charAt_5068e 24 = .ok (.iload 4, 2) := by decide +kernel
theorem dJ5_charAt_5068e_26 : decode cJ5_charAt_5068e 26 = .ok (.invokestatic 144, 3) := by decide +kernel
theorem dJ5_charAt_5068e_29 : decode cJ5_charAt_5068e 29 = .ok (.iload_n 2, 1) := by decide +kernel
theorem dJ5_charAt_5068e_30 : decode cJ5_charAt_5068e 30 = .ok (.ifCond .ne 12, 3) := by decide +kernel
theorem dJ5_charAt_5068e_33 : decode cJ5_charAt_5068e 33 = .ok (.aload_n 3, 1) := by decide +kernel
theorem dJ5_charAt_5068e_34 : decode cJ5_charAt_5068e 34 = .ok (.iload_n 1, 1) := by decide +kernel
theorem dJ5_charAt_5068e_35 : decode cJ5_charAt_5068e 35 = .ok (.baload, 1) := by decide +kernel
theorem dJ5_charAt_5068e_36 : decode cJ5_charAt_5068e 36 = .ok (.sipush 255, 3) := by decide +kernel
theorem dJ5_charAt_5068e_39 : decode cJ5_charAt_5068e 39 = .ok (.iand, 1) := by decide +kernel
theorem dJ5_charAt_5068e_40 : decode cJ5_charAt_5068e 40 = .ok (.i2c, 1) := by decide +kernel
theorem dJ5_charAt_5068e_41 : decode cJ5_charAt_5068e 41 = .ok (.ireturn, 1) := by decide +kernel
theorem dJ5_charAt_5068e_42 : decode cJ5_charAt_5068e 42 = .ok (.aload_n 3, 1) := by decide +kernel
theorem dJ5_charAt_5068e_43 : decode cJ5_charAt_5068e 43 = .ok (.iload_n 1, 1) := by decide +kernel
theorem dJ5_charAt_5068e_44 : decode cJ5_charAt_5068e 44 = .ok (.invokestatic 148, 3) := by decide +kernel
theorem dJ5_charAt_5068e_47 : decode cJ5_charAt_5068e 47 = .ok (.ireturn, 1) := by decide +kernel
theorem dJ5_append_cf1ce_0 : decode cJ5_append_cf1ce 0 = .ok (.aload_n 1, 1) := by decide +kernel
theorem dJ5_append_cf1ce_1 : decode cJ5_append_cf1ce 1 = .ok (.ifnonnull 8, 3) := by decide +kernel
theorem dJ5_append_cf1ce_4 : decode cJ5_append_cf1ce 4 = .ok (.aload_n 0, 1) := by decide +kernel
theorem dJ5_append_cf1ce_5 : decode cJ5_append_cf1ce 5 = .ok (.invokevirtual 204, 3) := by decide +kernel
theorem dJ5_append_cf1ce_8 : decode cJ5_append_cf1ce 8 = .ok (.areturn, 1) := by decide +kernel
theorem dJ5_append_cf1ce_9 : decode cJ5_append_cf1ce 9 = .ok (.aload_n 1, 1) := by decide +kernel
theorem dJ5_append_cf1ce_10 : decode cJ5_append_cf1ce 10 = .ok (.invokevirtual 32, 3) := by decide +kernel
theorem dJ5_append_cf1ce_13 : decode cJ5_append_cf1ce 13 = .ok (.istore_n 2, 1) := by decide +kernel
theorem dJ5_append_cf1ce_14 : decode cJ5_append_cf1ce 14 = .ok (.aload_n 0, 1) := by decide +kernel
theorem dJ5_append_cf1ce_15 : decode cJ5_append_cf1ce 15 = .ok (.aload_n 0, 1) := by decide +kernel
theorem dJ5_append_cf1ce_16 : decode cJ5_append_cf1ce 16 = .ok (.getfield 79, 3) := by decide +kernel
theorem dJ5_append_cf1ce_19 : decode cJ5_append_cf1ce 19 = .ok (.iload_n 2, 1) := by decide +kernel
theorem dJ5_append_cf1ce_20 : decode cJ5_append_cf1ce 20 = .ok (.iadd, 1) := by decide +kernel
theorem dJ5_append_cf1ce_21 : decode cJ5_append_cf1ce 21 = .ok (.invokevirtual 100, 3) := by decide +kernel
theorem dJ5_append_cf1ce_24 : decode cJ5_append_cf1ce 24 = .ok (.aload_n 0, 1) := by decide +kernel
theorem dJ5_append_cf1ce_25 : decode cJ5_append_cf1ce 25 = .ok (.aload_n 0, 1) := by decide +kernel
theorem dJ5_append_cf1ce_26 : decode cJ5_append_cf1ce 26 = .ok (.getfield 79, 3) := by decide +kernel
theorem dJ5_append_cf1ce_29 : decode cJ5_append_cf1ce 29 = .ok (.aload_n 1, 1) := by decide +kernel
theorem dJ5_append_cf1ce_30 : decode cJ5_append_cf1ce 30 = .ok (.invokevirtual 208, 3) := by decide +kernel
theorem dJ5_append_cf1ce_33 : decode cJ5_append_cf1ce 33 = .ok (.aload_n 0, 1) := by decide +kernel
theorem dJ5_append_cf1ce_34 : decode cJ5_append_cf1ce 34 = .ok (.dup, 1) := by decide +kernel
theorem dJ5_append_cf1ce_35 : decode cJ5_append_cf1ce 35 = .ok (.getfield 79, 3) := by decide +kernel
theorem dJ5_append_cf1ce_38 : decode cJ5_append_cf1ce 38 = .ok (.iload_n 2, 1) := by decide +kernel
theorem dJ5_append_cf1ce_39 : decode cJ5_append_cf1ce 39 = .ok (.iadd, 1) := by decide +kernel
theorem dJ5_append_cf1ce_40 : decode cJ5_append_cf1ce 40 = .ok (.putfield 79, 3) := by decide +kernel
theorem dJ5_append_cf1ce_43 : decode cJ5_append_cf1ce 43 = .ok (.aload_n 0, 1) := by decide +kernel
theorem dJ5_append_cf1ce_44 : decode cJ5_append_cf1ce 44 = .ok (.areturn, 1) := by decide +kernel
theorem dJ5_appendNull_278bc_0 : decode cJ5_appendNull_278bc 0 = .ok (.aload_n 0, 1) := by decide +kernel
theorem dJ5_appendNull_278bc_1 : decode cJ5_appendNull_278bc 1 = .ok (.aload_n 0, 1) := by decide +kernel
theorem dJ5_appendNull_278bc_2 : decode cJ5_appendNull_278bc 2 = .ok (.getfield 79, 3) := by decide +kernel
theorem dJ5_appendNull_278bc_5 : decode cJ5_appendNull_278bc 5 = .ok (.iconst 4, 1) := by decide +kernel
theorem dJ5_appendNull_278bc_6 : decode cJ5_appendNull_278bc 6 = .ok (.iadd, 1) := by decide +kernel
theorem dJ5_appendNull_278bc_7 : decode cJ5_appendNull_278bc 7 = .ok (.invokevirtual 100, 3) := by decide +kernel
theorem dJ5_appendNull_278bc_10 : decode cJ5_appendNull_278bc 10 = .ok (.aload_n 0, 1) := by decide +kernel
theorem dJ5_appendNull_278bc_11 : decode cJ5_appendNull_278bc 11 = .ok (.getfield 79, 3) := by decide +kernel
theorem dJ5_appendNull_278bc_14 : decode cJ5_appendNull_278bc 14 = .ok (.istore_n 1, 1) := by decide +kernel
theorem dJ5_appendNull_278bc_15 : decode cJ5_appendNull_278bc 15 = .ok (.aload_n 0, 1) := by decide +kernel
theorem dJ5_appendNull_278bc_16 : decode cJ5_appendNull_278bc 16 = .ok (.getfield 15, 3) := by decide +kernel
theorem dJ5_appendNull_278bc_19 : decode cJ5_appendNull_278bc 19 = .ok (.astore_n 2, 1) := by decide +kernel
theorem dJ5_appendNull_278bc_20 : decode cJ5_appendNull_278bc 20 = .ok (.aload_n 0, 1) := by decide +kernel
theorem dJ5_appendNull_278bc_21 : decode cJ5_appendNull_278bc 21 = .ok (.invokevirtual 83, 3) := by decide +kernel
theorem dJ5_appendNull_278bc_24 : decode cJ5_appendNull_278bc 24 = .ok (.ifCond .eq 38, 3) := by decide +kernel
theorem dJ5_appendNull_278bc_27 : decode cJ5_appendNull_278bc 27 = .ok (.aload_n 2, 1) := by decide +kernel
theorem dJ5_appendNull_278bc_28 : decode cJ5_appendNull_278bc 28 = .ok (.iload_n 1, 1) := by decide +kernel
theorem dJ5_appendNull_278bc_29 : decode cJ5_appendNull_278bc 29 = .ok (.iinc 1 1, 3) := by decide +kernel
theorem dJ5_appendNull_278bc_32 : decode cJ5_appendNull_278bc 32 = .ok (.bipush 110, 2) := by decide +kernel
theorem dJ5_appendNull_278bc_34 : decode cJ5_appendNull_278bc 34 = .ok (.bastore, 1) := by decide +kernel
theorem dJ5_appendNull_278bc_35 : decode cJ5_appendNull_278bc 35 = .ok (.aload_n 2, 1) := by decide +kernel
theorem dJ5_appendNull_278bc_36 : decode cJ5_appendNull_278bc 36 = .ok (.iload_n 1, 1) := by decide +kernel
theorem dJ5_appendNull_278bc_37 : decode cJ5_appendNull_278bc 37 = .ok (.iinc 1 1, 3) := by decide +kernel
theorem dJ5_appendNull_278bc_40 : decode cJ5_appendNull_278bc 40 = .ok (.bipush 117, 2) := by decide +kernel
theorem dJ5_appendNull_278bc_42 : decode cJ5_appendNull_278bc 42 = .ok (.bastore, 1) := by decide +kernel
theorem dJ5_appendNull_278bc_43 : decode cJ5_appendNull_278bc 43 = .ok (.aload_n 2, 1) := by decide +kernel
theorem dJ5_appendNull_278bc_44 : decode cJ5_appendNull_278bc 44 = .ok (.iload_n 1, 1) := by decide +kernel
theorem dJ5_appendNull_278bc_45 : decode cJ5_appendNull_278bc 45 = .ok (.iinc 1 1, 3) := by decide +kernel
theorem dJ5_appendNull_278bc_48 : decode cJ5_appendNull_278bc 48 = .ok (.bipush 108, 2) := by decide +kernel
theorem dJ5_appendNull_278bc_50 : decode cJ5_appendNull_278bc 50 = .ok (.bastore, 1) := by decide +kernel
theorem dJ5_appendNull_278bc_51 : decode cJ5_appendNull_278bc 51 = .ok (.aload_n 2, 1) := by decide +kernel
theorem dJ5_appendNull_278bc_52 : decode cJ5_appendNull_278bc 52 = .ok (.iload_n 1, 1) := by decide +kernel
theorem dJ5_appendNull_278bc_53 : decode cJ5_appendNull_278bc 53 = .ok (.iinc 1 1, 3) := by decide +kernel
theorem dJ5_appendNull_278bc_56 : decode cJ5_appendNull_278bc 56 = .ok (.bipush 108, 2) := by decide +kernel
theorem dJ5_appendNull_278bc_58 : decode cJ5_appendNull_278bc 58 = .ok (.bastore, 1) := by decide +kernel
theorem dJ5_appendNull_278bc_59 : decode cJ5_appendNull_278bc 59 = .ok (.goto 17, 3) := by decide +kernel
theorem dJ5_appendNull_278bc_62 : decode cJ5_appendNull_278bc 62 = .ok (.aload_n 2, 1) := by decide +kernel
theorem dJ5_appendNull_278bc_63 : decode cJ5_appendNull_278bc 63 = .ok (.iload_n 1, 1) := by decide +kernel
theorem dJ5_appendNull_278bc_64 : decode cJ5_appendNull_278bc 64 = .ok (.bipush 110, 2) := by decide +kernel
theorem dJ5_appendNull_278bc_66 : decode cJ5_appendNull_278bc 66 = .ok (.bipush 117, 2) := by decide +kernel
theorem dJ5_appendNull_278bc_68 : decode cJ5_appendNull_278bc 68 = .ok (.bipush 108, 2) := by decide +kernel
theorem dJ5_appendNull_278bc_70 : decode cJ5_appendNull_278bc 70 = .ok (.bipush 108, 2) := by decide +kernel
theorem dJ5_appendNull_278bc_72 : decode cJ5_appendNull_278bc 72 = .ok (.invokestatic 226, 3) := by decide +kernel
theorem dJ5_appendNull_278bc_75 : decode cJ5_appendNull_278bc 75 = .ok (.istore_n 1, 1) := by decide +kernel
theorem dJ5_appendNull_278bc_76 : decode cJ5_appendNull_278bc 76 = .ok (.aload_n 0, 1) := by decide +kernel
theorem dJ5_appendNull_278bc_77 : decode cJ5_appendNull_278bc 77 = .ok (.iload_n 1, 1) := by decide +kernel
theorem dJ5_appendNull_278bc_78 : decode cJ5_appendNull_278bc 78 = .ok (.putfield 79, 3) := by decide +kernel
theorem dJ5_appendNull_278bc_81 : decode cJ5_appendNull_278bc 81 = .ok (.aload_n 0, 1) := by decide +kernel
theorem dJ5_appendNull_278bc_82 : decode cJ5_appendNull_278bc 82 = .ok (.areturn, 1) := by decide +kernel
theorem dJ5_append_3fe6f_0 : decode cJ5_append_3fe6f 0 = .ok (.aload_n 0, 1) := by decide +kernel
theorem dJ5_append_3fe6f_1 : decode cJ5_append_3fe6f 1 = .ok (.aload_n 0, 1) := by decide +kernel
theorem dJ5_append_3fe6f_2 : decode cJ5_append_3fe6f 2 = .ok (.getfield 79, 3) := by decide +kernel
theorem dJ5_append_3fe6f_5 : decode cJ5_append_3fe6f 5 = .ok (.iconst 1, 1) := by decide +kernel
theorem dJ5_append_3fe6f_6 : decode cJ5_append_3fe6f 6 = .ok (.iadd, 1) := by decide +kernel
theorem dJ5_append_3fe6f_7 : decode cJ5_append_3fe6f 7 = .ok (.invokevirtual 100, 3) := by decide +kernel
theorem dJ5_append_3fe6f_10 : decode cJ5_append_3fe6f 10 = .ok (.aload_n 0, 1) := by decide +kernel
theorem dJ5_append_3fe6f_11 : decode cJ5_append_3fe6f 11 = .ok (.invokevirtual 83, 3) := by decide +kernel
theorem dJ5_append_3fe6f_14 : decode cJ5_append_3fe6f 14 = .ok (.ifCond .eq 31, 3) := by decide +kernel
theorem dJ5_append_3fe6f_17 : decode cJ5_append_3fe6f 17 = .ok (.iload_n 1, 1) := by decide +kernel
theorem dJ5_append_3fe6f_18 : decode cJ5_append_3fe6f 18 = .ok (.invokestatic 191, 3) := by decide +kernel
theorem dJ5_append_3fe6f_21 : decode cJ5_append_3fe6f 21 = .ok (.ifCond .eq 24, 3) := by decide +kernel
theorem dJ5_append_3fe6f_24 : decode cJ5_append_3fe6f 24 = .ok (.aload_n 0, 1) := by decide +kernel
theorem dJ5_append_3fe6f_25 : decode cJ5_append_3fe6f 25 = .ok (.getfield 15, 3) := by decide +kernel
theorem dJ5_append_3fe6f_28 : decode cJ5_append_3fe6f 28 = .ok (.aload_n 0, 1) := by decide +kernel
theorem dJ5_append_3fe6f_29 : decode cJ5_append_3fe6f 29 = .ok (.dup, 1) := by decide +kernel
theorem dJ5_append_3fe6f_30 : decode cJ5_append_3fe6f 30 = .ok (.getfield 79, 3) := by decide +kernel
theorem dJ5_append_3fe6f_33 : decode cJ5_append_3fe6f 33 = .ok (.dup_x1, 1) := by decide +kernel
theorem dJ5_append_3fe6f_34 : decode cJ5_append_3fe6f 34 = .ok (.iconst 1, 1) := by decide +kernel
theorem dJ5_append_3fe6f_35 : decode cJ5_append_3fe6f 35 = .ok (.iadd, 1) := by decide +kernel
theorem dJ5_append_3fe6f_36 : decode cJ5_append_3fe6f 36 = .ok (.putfield 79, 3) := by decide +kernel
theorem dJ5_append_3fe6f_39 : decode cJ5_append_3fe6f 39 = .ok (.iload_n 1, 1) := by decide +kernel
theorem dJ5_append_3fe6f_40 : decode cJ5_append_3fe6f 40 = .ok (.i2b, 1) := by decide +kernel
theorem dJ5_append_3fe6f_41 : decode cJ5_append_3fe6f 41 = .ok (.bastore, 1) := by decide +kernel
theorem dJ5_append_3fe6f_42 : decode cJ5_append_3fe6f 42 = .ok (.goto 33, 3) := by decide +kernel
theorem dJ5_append_3fe6f_45 : decode cJ5_append_3fe6f 45 = .ok (.aload_n 0, 1) := by decide +kernel
theorem dJ5_append_3fe6f_46 : decode cJ5_append_3fe6f 46 = .ok (.invokevirtual 83, 3) := by decide +kernel
theorem dJ5_append_3fe6f_49 : decode cJ5_append_3fe6f 49 = .ok (.ifCond .eq 7, 3) := by decide +kernel
theorem dJ5_append_3fe6f_52 : decode cJ5_append_3fe6f 52 = .ok (.aload_n 0, 1) := by decide +kernel
theorem dJ5_append_3fe6f_53 : decode cJ5_append_3fe6f 53 = .ok (.invokevirtual 195, 3) := by decide +kernel
theorem dJ5_append_3fe6f_56 : decode cJ5_append_3fe6f 56 = .ok (.aload_n 0, 1) := by decide +kernel
theorem dJ5_append_3fe6f_57 : decode cJ5_append_3fe6f 57 = .ok (.getfield 15, 3) := by decide +kernel
theorem dJ5_append_3fe6f_60 : decode cJ5_append_3fe6f 60 = .ok (.aload_n 0, 1) := by decide +kernel
theorem dJ5_append_3fe6f_61 : decode cJ5_append_3fe6f 61 = .ok (.dup, 1) := by decide +kernel
theorem dJ5_append_3fe6f_62 : decode cJ5_append_3fe6f 62 = .ok (.getfield 79, 3) := by decide +kernel
theorem dJ5_append_3fe6f_65 : decode cJ5_append_3fe6f 65 = .ok (.dup_x1, 1) := by decide +kernel
theorem dJ5_append_3fe6f_66 : decode cJ5_append_3fe6f 66 = .ok (.iconst 1, 1) := by decide +kernel
theorem dJ5_append_3fe6f_67 : decode cJ5_append_3fe6f 67 = .ok (.iadd, 1) := by decide +kernel
theorem dJ5_append_3fe6f_68 : decode cJ5_append_3fe6f 68 = .ok (.putfield 79, 3) := by decide +kernel
theorem dJ5_append_3fe6f_71 : decode cJ5_append_3fe6f 71 = .ok (.iload_n 1, 1) := by decide +kernel
theorem dJ5_append_3fe6f_72 : decode cJ5_append_3fe6f 72 = .ok (.invokestatic 197, 3) := by decide +kernel
theorem dJ5_append_3fe6f_75 : decode cJ5_append_3fe6f 75 = .ok (.aload_n 0, 1) := by decide +kernel
theorem dJ5_append_3fe6f_76 : decode cJ5_append_3fe6f 76 = .ok (.areturn, 1) := by decide +kernel
theorem dJ5_append_c97b9_0 : decode cJ5_append_c97b9 0 = .ok (.aload_n 0, 1) := by decide +kernel
theorem dJ5_append_c97b9_1 : decode cJ5_append_c97b9 1 = .ok (.getfield 79, 3) := by decide +kernel
theorem dJ5_append_c97b9_4 : decode cJ5_append_c97b9 4 = .ok (.istore_n 2, 1) := by decide +kernel
theorem dJ5_append_c97b9_5 : decode cJ5_append_c97b9 5 = .ok (.iload_n 2, 1) := by decide +kernel
theorem dJ5_append_c97b9_6 : decode cJ5_append_c97b9 6 = .ok (.iload_n 1, 1) := by decide +kernel
theorem dJ5_append_c97b9_7 : decode cJ5_append_c97b9 7 = .ok (.invokestatic 245, 3) := by decide +kernel
theorem dJ5_append_c97b9_10 : decode cJ5_append_c97b9 10 = .ok (.iadd, 1) := by decide +kernel
theorem dJ5_append_c97b9_11 : decode cJ5_append_c97b9 11 = .ok (.istore_n 3, 1) := by decide +kernel
theorem dJ5_append_c97b9_12 : decode cJ5_append_c97b9 12 = .ok (.aload_n 0, 1) := by decide +kernel
theorem dJ5_append_c97b9_13 : decode cJ5_append_c97b9 13 = .ok (.iload_n 3, 1) := by decide +kernel
theorem dJ5_append_c97b9_14 : decode cJ5_append_c97b9 14 = .ok (.invokevirtual 100, 3) := by decide +kernel
theorem dJ5_append_c97b9_17 : decode cJ5_append_c97b9 17 = .ok (.aload_n 0, 1) := by decide +kernel
theorem dJ5_append_c97b9_18 : decode cJ5_append_c97b9 18 = .ok (.invokevirtual 83, 3) := by decide +kernel
theorem dJ5_append_c97b9_21 : decode cJ5_append_c97b9 21 = .ok (.ifCond .eq 16, 3) := by decide +kernel
theorem dJ5_append_c97b9_24 : decode cJ5_append_c97b9 24 = .ok (.iload_n 1, 1) := by decide +kernel
theorem dJ5_append_c97b9_25 : decode cJ5_append_c97b9 25 = .ok (.iload_n 3, 1) := by decide +kernel
theorem dJ5_append_c97b9_26 : decode cJ5_append_c97b9 26 = .ok (.aload_n 0, 1) := by decide +kernel
theorem dJ5_append_c97b9_27 : decode cJ5_append_c97b9 27 = .ok (.getfield 15, 3) := by decide +kernel
theorem dJ5_append_c97b9_30 : decode cJ5_append_c97b9 30 = .ok (.invokestatic 248, 3) := by decide +kernel
theorem dJ5_append_c97b9_33 : decode cJ5_append_c97b9 33 = .ok (.pop, 1) := by decide +kernel
theorem dJ5_append_c97b9_34 : decode cJ5_append_c97b9 34 = .ok (.goto 14, 3) := by decide +kernel
theorem dJ5_append_c97b9_37 : decode cJ5_append_c97b9 37 = .ok (.iload_n 1, 1) := by decide +kernel
theorem dJ5_append_c97b9_38 : decode cJ5_append_c97b9 38 = .ok (.iload_n 2, 1) := by decide +kernel
theorem dJ5_append_c97b9_39 : decode cJ5_append_c97b9 39 = .ok (.iload_n 3, 1) := by decide +kernel
theorem dJ5_append_c97b9_40 : decode cJ5_append_c97b9 40 = .ok (.aload_n 0, 1) := by decide +kernel
theorem dJ5_append_c97b9_41 : decode cJ5_append_c97b9 41 = .ok (.getfield 15, 3) := by decide +kernel
theorem dJ5_append_c97b9_44 : decode cJ5_append_c97b9 44 = .ok (.invokestatic 251, 3) := by decide +kernel
theorem dJ5_append_c97b9_47 : decode cJ5_append_c97b9 47 = .ok (.pop, 1) := by decide +kernel
theorem dJ5_append_c97b9_48 : decode cJ5_append_c97b9 48 = .ok (.aload_n 0, 1) := by decide +kernel
theorem dJ5_append_c97b9_49 : decode cJ5_append_c97b9 49 = .ok (.iload_n 3, 1) := by decide +kernel
theorem dJ5_append_c97b9_50 : decode cJ5_append_c97b9 50 = .ok (.putfield 79, 3) := by decide +kernel
theorem dJ5_append_c97b9_53 : decode cJ5_append_c97b9 53 = .ok (.aload_n 0, 1) := by decide +kernel
theorem dJ5_append_c97b9_54 : decode cJ5_append_c97b9 54 = .ok (.areturn, 1) := by decide +kernel
theorem dJ5_getValue_6d5f1_0 : decode cJ5_getValue_6d5f1 0 = .ok (.aload_n 0, 1) := by decide +kernel
theorem dJ5_getValue_6d5f1_1 : decode cJ5_getValue_6d5f1 1 = .ok (.getfield 15, 3) := by decide +kernel
theorem dJ5_getValue_6d5f1_4 : decode cJ5_getValue_6d5f1 4 = .ok (.areturn, 1) := by decide +kernel
theorem dJ5_isLatin1_aae02_0 : decode cJ5_isLatin1_aae02 0 = .ok (.getstatic 18, 3) := by decide +kernel
theorem dJ5_isLatin1_aae02_3 : decode cJ5_isLatin1_aae02 3 = .ok (.ifCond .eq 14, 3) := by decide +kernel
theorem dJ5_isLatin1_aae02_6 : decode cJ5_isLatin1_aae02 6 = .ok (.aload_n 0, 1) := by decide +kernel
theorem dJ5_isLatin1_aae02_7 : decode cJ5_isLatin1_aae02 7 = .ok (.getfield 22, 3) := by decide +kernel
theorem dJ5_isLatin1_aae02_10 : decode cJ5_isLatin1_aae02 10 = .ok (.ifCond .ne 7, 3) := by decide +kernel
theorem dJ5_isLatin1_aae02_13 : decode cJ5_isLatin1_aae02 13 = .ok (.iconst 1, 1) := by decide +kernel
theorem dJ5_isLatin1_aae02_14 : decode cJ5_isLatin1_aae02 14 = .ok (.goto 4, 3) := by decide +kernel
theorem dJ5_isLatin1_aae02_17 : decode cJ5_isLatin1_aae02 17 = .ok (.iconst 0, 1) := by decide +kernel
theorem dJ5_isLatin1_aae02_18 : decode cJ5_isLatin1_aae02 18 = .ok (.ireturn, 1) := by decide +kernel
theorem dJ5_inflateIfNeededFor_a7421_0 : decode cJ5_inflateIfNeededFor_a7421 0 = .ok (.getstatic 18, 3) := by decide +kernel
theorem dJ5_inflateIfNeededFor_a7421_3 : decode cJ5_inflateIfNeededFor_a7421 3 = .ok (.ifCond .eq 18, 3) := by decide +kernel
theorem dJ5_inflateIfNeededFor_a7421_6 : decode cJ5_inflateIfNeededFor_a7421 6 = .ok (.aload_n 0, 1) := by decide +kernel
theorem dJ5_inflateIfNeededFor_a7421_7 : decode cJ5_inflateIfNeededFor_a7421 7 = .ok (.getfield 22, 3) := by decide +kernel
theorem dJ5_inflateIfNeededFor_a7421_10 : decode cJ5_inflateIfNeededFor_a7421 10 = .ok (.aload_n 1, 1) := by decide +kernel
theorem dJ5_inflateIfNeededFor_a7421_11 : decode cJ5_inflateIfNeededFor_a7421 11 = .ok (.invokevirtual 40, 3) := by decide +kernel
theorem dJ5_inflateIfNeededFor_a7421_14 : decode cJ5_inflateIfNeededFor_a7421 14 = .ok (.if_icmp .eq 7, 3) := by decide +kernel
theorem dJ5_inflateIfNeededFor_a7421_17 : decode cJ5_inflateIfNeededFor_a7421 17 = .ok (.aload_n 0, 1) := by decide +kernel
theorem dJ5_inflateIfNeededFor_a7421_18 : decode cJ5_inflateIfNeededFor_a7421 18 = .ok (.invokevirtual 195, 3) := by decide +kernel
theorem dJ5_inflateIfNeededFor_a7421_21 : decode cJ5_inflateIfNeededFor_a7421 21 = .ok (.return_, 1) := by decide +kernel
theorem dJ5_putStringAt_47b60_0 : decode cJ5_putStringAt_47b60 0 = .ok (.aload_n 0, 1) := by decide +kernel
theorem dJ5_putStringAt_47b60_1 : decode cJ5_putStringAt_47b60 1 = .ok (.aload_n 2, 1) := by decide +kernel
theorem dJ5_putStringAt_47b60_2 : decode cJ5_putStringAt_47b60 2 = .ok (.invokevirtual 397, 3) := by decide +kernel
theorem dJ5_putStringAt_47b60_5 : decode cJ5_putStringAt_47b60 5 = .ok (.aload_n 2, 1) := by decide +kernel
theorem dJ5_putStringAt_47b60_6 : decode cJ5_putStringAt_47b60 6 = .ok (.aload_n 0, 1) := by decide +kernel
theorem dJ5_putStringAt_47b60_7 : decode cJ5_putStringAt_47b60 7 = .ok (.getfield 15, 3) := by decide +kernel
theorem dJ5_putStringAt_47b60_10 : decode cJ5_putStringAt_47b60 10 = .ok (.iload_n 1, 1) := by decide +kernel
theorem dJ5_putStringAt_47b60_11 : decode cJ5_putStringAt_47b60 11 = .ok (.aload_n 0, 1) := by decide +kernel
theorem dJ5_putStringAt_47b60_12 : decode cJ5_putStringAt_47b60 12 = .ok (.getfield 22, 3) := by decide +kernel
theorem dJ5_putStringAt_47b60_15 : decode cJ5_putStringAt_47b60 15 = .ok (.invokevirtual 399, 3) := by decide +kernel
theorem dJ5_putStringAt_47b60_18 : decode cJ5_putStringAt_47b60 18 = .ok (.return_, 1) := by decide +kernel
theorem dJx00060_init_a7421_0 : decode cJx00060_init_a7421 0 = .ok (.aload_n 0, 1) := by decide +kernel
theorem dJx00060_init_a7421_1 : decode cJx00060_init_a7421 1 = .ok (.aload_n 1, 1) := by decide +kernel
theorem dJx00060_init_a7421_2 : decode cJx00060_init_a7421 2 = .ok (.invokespecial 7, 3) := by decide +kernel
theorem dJx00060_init_a7421_5 : decode cJx00060_init_a7421 5 = .ok (.return_, 1) := by decide +kernel
theorem dJx00060_init_d00df_0 : decode cJx00060_init_d00df 0 = .ok (.aload_n 0, 1) := by decide +kernel
theorem dJx00060_init_d00df_1 : decode cJx00060_init_d00df 1 = .ok (.new 10, 3) := by decide +kernel
theorem dJx00060_init_d00df_4 : decode cJx00060_init_d00df 4 = .ok (.dup, 1) := by decide +kernel
theorem dJx00060_init_d00df_5 : decode cJx00060_init_d00df 5 = .ok (.invokespecial 12, 3) := by decide +kernel
theorem dJx00060_init_d00df_8 : decode cJx00060_init_d00df 8 = .ok (.ldc 13, 2) := by decide +kernel
theorem dJx00060_init_d00df_10 : decode cJx00060_init_d00df 10 = .ok (.invokevirtual 15, 3) := by decide +kernel
theorem dJx00060_init_d00df_13 : decode cJx00060_init_d00df 13 = .ok (.iload_n 1, 1) := by decide +kernel
theorem dJx00060_init_d00df_14 : decode cJx00060_init_d00df 14 = .ok (.invokevirtual 19, 3) := by decide +kernel
theorem dJx00060_init_d00df_17 : decode cJx00060_init_d00df 17 = .ok (.invokevirtual 22, 3) := by decide +kernel
theorem dJx00060_init_d00df_20 : decode cJx00060_init_d00df 20 = .ok (.invokespecial 7, 3) := by decide +kernel
theorem dJx00060_init_d00df_23 : decode cJx00060_init_d00df 23 = .ok (.return_, 1) := by decide +kernel
theorem dJ6_getChars_ba4f3_0 : decode cJ6_getChars_ba4f3 0 = .ok (.iload_n 1, 1) := by decide +kernel
theorem dJ6_getChars_ba4f3_1 : decode cJ6_getChars_ba4f3 1 = .ok (.istore 5, 2) := by decide +kernel
theorem dJ6_getChars_ba4f3_3 : decode cJ6_getChars_ba4f3 3 = .ok (.iload_n 0, 1) := by decide +kernel
theorem dJ6_getChars_ba4f3_4 : decode cJ6_getChars_ba4f3 4 = .ok (.ifCond .ge 7, 3) := by decide +kernel
theorem dJ6_getChars_ba4f3_7 : decode cJ6_getChars_ba4f3 7 = .ok (.iconst 1, 1) := by decide +kernel
theorem dJ6_getChars_ba4f3_8 : decode cJ6_getChars_ba4f3 8 = .ok (.goto 4, 3) := by decide +kernel
theorem dJ6_getChars_ba4f3_11 : decode cJ6_getChars_ba4f3 11 = .ok (.iconst 0, 1) := by decide +kernel
theorem dJ6_getChars_ba4f3_12 : decode cJ6_getChars_ba4f3 12 = .ok (.istore 6, 2) := by decide +kernel
theorem dJ6_getChars_ba4f3_14 : decode cJ6_getChars_ba4f3 14 = .ok (.iload 6, 2) := by decide +kernel
theorem dJ6_getChars_ba4f3_16 : decode cJ6_getChars_ba4f3 16 = .ok (.ifCond .ne 6, 3) := by decide +kernel
theorem dJ6_getChars_ba4f3_19 : decode cJ6_getChars_ba4f3 19 = .ok (.iload_n 0, 1) := by decide +kernel
theorem dJ6_getChars_ba4f3_20 : decode cJ6_getChars_ba4f3 20 = .ok (.ineg, 1) := by decide +kernel
theorem dJ6_getChars_ba4f3_21 : decode cJ6_getChars_ba4f3 21 = .ok (.istore_n 0, 1) := by decide +kernel
theorem dJ6_getChars_ba4f3_22 : decode cJ6_getChars_ba4f3 22 = .ok (.iload_n 0, 1) := by decide +kernel
theorem dJ6_getChars_ba4f3_23 : decode cJ6_getChars_ba4f3 23 = .ok (.bipush (-100), 2) := by decide +kernel
theorem dJ6_getChars_ba4f3_25 : decode cJ6_getChars_ba4f3 25 = .ok (.if_icmp .gt 47, 3) := by decide +kernel
theorem dJ6_getChars_ba4f3_28 : decode cJ6_getChars_ba4f3 28 = .ok (.iload_n 0, 1) := by decide +kernel
theorem dJ6_getChars_ba4f3_29 : decode cJ6_getChars_ba4f3 29 = .ok (.bipush 100, 2) := by decide +kernel
theorem dJ6_getChars_ba4f3_31 : decode cJ6_getChars_ba4f3 31 = .ok (.idiv, 1) := by decide +kernel
theorem dJ6_getChars_ba4f3_32 : decode cJ6_getChars_ba4f3 32 = .ok (.istore_n 3, 1) := by decide +kernel
theorem dJ6_getChars_ba4f3_33 : decode cJ6_getChars_ba4f3 33 = .ok (.iload_n 3, 1) := by decide +kernel
theorem dJ6_getChars_ba4f3_34 : decode cJ6_getChars_ba4f3 34 = .ok (.bipush 100, 2) := by decide +kernel
theorem dJ6_getChars_ba4f3_36 : decode cJ6_getChars_ba4f3 36 = .ok (.imul, 1) := by decide +kernel
theorem dJ6_getChars_ba4f3_37 : decode cJ6_getChars_ba4f3 37 = .ok (.iload_n 0, 1) := by decide +kernel
theorem dJ6_getChars_ba4f3_38 : decode cJ6_getChars_ba4f3 38 = .ok (.isub, 1) := by decide +kernel
theorem dJ6_getChars_ba4f3_39 : decode cJ6_getChars_ba4f3 39 = .ok (.istore 4, 2) := by decide +kernel
theorem dJ6_getChars_ba4f3_41 : decode cJ6_getChars_ba4f3 41 = .ok (.iload_n 3, 1) := by decide +kernel
theorem dJ6_getChars_ba4f3_42 : decode cJ6_getChars_ba4f3 42 = .ok (.istore_n 0, 1) := by decide +kernel
theorem dJ6_getChars_ba4f3_43 : decode cJ6_getChars_ba4f3 43 = .ok (.aload_n 2, 1) := by decide +kernel
theorem dJ6_getChars_ba4f3_44 : decode cJ6_getChars_ba4f3 44 = .ok (.iinc 5 (-1), 3) := by decide +kernel
theorem dJ6_getChars_ba4f3_47 : decode cJ6_getChars_ba4f3 47 = .ok (.iload 5, 2) := by decide +kernel
theorem dJ6_getChars_ba4f3_49 : decode cJ6_getChars_ba4f3 49 = .ok (.getstatic 83, 3) := by decide +kernel
theorem dJ6_getChars_ba4f3_52 : decode cJ6_getChars_ba4f3 52 = .ok (.iload 4, 2) := by decide +kernel
theorem dJ6_getChars_ba4f3_54 : decode cJ6_getChars_ba4f3 54 = .ok (.baload, 1) := by decide +kernel
theorem dJ6_getChars_ba4f3_55 : decode cJ6_getChars_ba4f3 55 = .ok (.bastore, 1) := by decide +kernel
theorem dJ6_getChars_ba4f3_56 : decode cJ6_getChars_ba4f3 56 = .ok (.aload_n 2, 1) := by decide +kernel
theorem dJ6_getChars_ba4f3_57 : decode cJ6_getChars_ba4f3 57 = .ok (.iinc 5 (-1), 3) := by decide +kernel
theorem dJ6_getChars_ba4f3_60 : decode cJ6_getChars_ba4f3 60 = .ok (.iload 5, 2) := by decide +kernel
theorem dJ6_getChars_ba4f3_62 : decode cJ6_getChars_ba4f3 62 = .ok (.getstatic 87, 3) := by decide +kernel
theorem dJ6_getChars_ba4f3_65 : decode cJ6_getChars_ba4f3 65 = .ok (.iload 4, 2) := by decide +kernel
theorem dJ6_getChars_ba4f3_67 : decode cJ6_getChars_ba4f3 67 = .ok (.baload, 1) := by decide +kernel
theorem dJ6_getChars_ba4f3_68 : decode cJ6_getChars_ba4f3 68 = .ok (.bastore, 1) := by decide +kernel
theorem dJ6_getChars_ba4f3_69 : decode cJ6_getChars_ba4f3 69 = .ok (.goto (-47), 3) := by decide +kernel
theorem dJ6_getChars_ba4f3_72 : decode cJ6_getChars_ba4f3 72 = .ok (.aload_n 2, 1) := by decide +kernel
theorem dJ6_getChars_ba4f3_73 : decode cJ6_getChars_ba4f3 73 = .ok (.iinc 5 (-1), 3) := by decide +kernel
theorem dJ6_getChars_ba4f3_76 : decode cJ6_getChars_ba4f3 76 = .ok (.iload 5, 2) := by decide +kernel
theorem dJ6_getChars_ba4f3_78 : decode cJ6_getChars_ba4f3 78 = .ok (.getstatic 83, 3) := by decide +kernel
theorem dJ6_getChars_ba4f3_81 : decode cJ6_getChars_ba4f3 81 = .ok (.iload_n 0, 1) := by decide +kernel
theorem dJ6_getChars_ba4f3_82 : decode cJ6_getChars_ba4f3 82 = .ok (.ineg, 1) := by decide +kernel
theorem dJ6_getChars_ba4f3_83 : decode cJ6_getChars_ba4f3 83 = .ok (.baload, 1) := by decide +kernel
theorem dJ6_getChars_ba4f3_84 : decode cJ6_getChars_ba4f3 84 = .ok (.bastore, 1) := by decide +kernel
theorem dJ6_getChars_ba4f3_85 : decode cJ6_getChars_ba4f3 85 = .ok (.iload_n 0, 1) := by decide +kernel
theorem dJ6_getChars_ba4f3_86 : decode cJ6_getChars_ba4f3 86 = .ok (.bipush (-9), 2) := by decide +kernel
theorem dJ6_getChars_ba4f3_88 : decode cJ6_getChars_ba4f3 88 = .ok (.if_icmp .ge 16, 3) := by decide +kernel
theorem dJ6_getChars_ba4f3_91 : decode cJ6_getChars_ba4f3 91 = .ok (.aload_n 2, 1) := by decide +kernel
theorem dJ6_getChars_ba4f3_92 : decode cJ6_getChars_ba4f3 92 = .ok (.iinc 5 (-1), 3) := by decide +kernel
theorem dJ6_getChars_ba4f3_95 : decode cJ6_getChars_ba4f3 95 = .ok (.iload 5, 2) := by decide +kernel
theorem dJ6_getChars_ba4f3_97 : decode cJ6_getChars_ba4f3 97 = .ok (.getstatic 87, 3) := by decide +kernel
theorem dJ6_getChars_ba4f3_100 : decode cJ6_getChars_ba4f3 100 = .ok (.iload_n 0, 1) := by decide +kernel
theorem dJ6_getChars_ba4f3_101 : decode cJ6_getChars_ba4f3 101 = .ok (.ineg, 1) := by decide +kernel
theorem dJ6_getChars_ba4f3_102 : decode cJ6_getChars_ba4f3 102 = .ok (.baload, 1) := by decide +kernel
theorem dJ6_getChars_ba4f3_103 : decode cJ6_getChars_ba4f3 103 = .ok (.bastore, 1) := by decide +kernel
theorem dJ6_getChars_ba4f3_104 : decode cJ6_getChars_ba4f3 104 = .ok (.iload 6, 2) := by decide +kernel
theorem dJ6_getChars_ba4f3_106 : decode cJ6_getChars_ba4f3 106 = .ok (.ifCond .eq 12, 3) := by decide +kernel
theorem dJ6_getChars_ba4f3_109 : decode cJ6_getChars_ba4f3 109 = .ok (.aload_n 2, 1) := by decide +kernel
theorem dJ6_getChars_ba4f3_110 : decode cJ6_getChars_ba4f3 110 = .ok (.iinc 5 (-1), 3) := by decide +kernel
theorem dJ6_getChars_ba4f3_113 : decode cJ6_getChars_ba4f3 113 = .ok (.iload 5, 2) := by decide +kernel
theorem dJ6_getChars_ba4f3_115 : decode cJ6_getChars_ba4f3 115 = .ok (.bipush 45, 2) := by decide +kernel
theorem dJ6_getChars_ba4f3_117 : decode cJ6_getChars_ba4f3 117 = .ok (.bastore, 1) := by decide +kernel
theorem dJ6_getChars_ba4f3_118 : decode cJ6_getChars_ba4f3 118 = .ok (.iload 5, 2) := by decide +kernel
theorem dJ6_getChars_ba4f3_120 : decode cJ6_getChars_ba4f3 120 = .ok (.ireturn, 1) := by decide +kernel
theorem dJ6_stringSize_0f7a4_0 : decode cJ6_stringSize_0f7a4 0 = .ok (.iconst 1, 1) := by decide +kernel
theorem dJ6_stringSize_0f7a4_1 : decode cJ6_stringSize_0f7a4 1 = .ok (.istore_n 1, 1) := by decide +kernel
theorem dJ6_stringSize_0f7a4_2 : decode cJ6_stringSize_0f7a4 2 = .ok (.iload_n 0, 1) := by decide +kernel
theorem dJ6_stringSize_0f7a4_3 : decode cJ6_stringSize_0f7a4 3 = .ok (.ifCond .lt 8, 3) := by decide +kernel
theorem dJ6_stringSize_0f7a4_6 : decode cJ6_stringSize_0f7a4 6 = .ok (.iconst 0, 1) := by decide +kernel
theorem dJ6_stringSize_0f7a4_7 : decode cJ6_stringSize_0f7a4 7 = .ok (.istore_n 1, 1) := by decide +kernel
theorem dJ6_stringSize_0f7a4_8 : decode cJ6_stringSize_0f7a4 8 = .ok (.iload_n 0, 1) := by decide +kernel
theorem dJ6_stringSize_0f7a4_9 : decode cJ6_stringSize_0f7a4 9 = .ok (.ineg, 1) := by decide +kernel
theorem dJ6_stringSize_0f7a4_10 : decode cJ6_stringSize_0f7a4 10 = .ok (.istore_n 0, 1) := by decide +kernel
theorem dJ6_stringSize_0f7a4_11 : decode cJ6_stringSize_0f7a4 11 = .ok (.bipush (-10), 2) := by decide +kernel
theorem dJ6_stringSize_0f7a4_13 : decode cJ6_stringSize_0f7a4 13 = .ok (.istore_n 2, 1) := by decide +kernel
theorem dJ6_stringSize_0f7a4_14 : decode cJ6_stringSize_0f7a4 14 = .ok (.iconst 1, 1) := by decide +kernel
theorem dJ6_stringSize_0f7a4_15 : decode cJ6_stringSize_0f7a4 15 = .ok (.istore_n 3, 1) := by decide +kernel
theorem dJ6_stringSize_0f7a4_16 : decode cJ6_stringSize_0f7a4 16 = .ok (.iload_n 3, 1) := by decide +kernel
theorem dJ6_stringSize_0f7a4_17 : decode cJ6_stringSize_0f7a4 17 = .ok (.bipush 10, 2) := by decide +kernel
theorem dJ6_stringSize_0f7a4_19 : decode cJ6_stringSize_0f7a4 19 = .ok (.if_icmp .ge 23, 3) := by decide +kernel
theorem dJ6_stringSize_0f7a4_22 : decode cJ6_stringSize_0f7a4 22 = .ok (.iload_n 0, 1) := by decide +kernel
theorem dJ6_stringSize_0f7a4_23 : decode cJ6_stringSize_0f7a4 23 = .ok (.iload_n 2, 1) := by decide +kernel
theorem dJ6_stringSize_0f7a4_24 : decode cJ6_stringSize_0f7a4 24 = .ok (.if_icmp .le 7, 3) := by decide +kernel
theorem dJ6_stringSize_0f7a4_27 : decode cJ6_stringSize_0f7a4 27 = .ok (.iload_n 3, 1) := by decide +kernel
theorem dJ6_stringSize_0f7a4_28 : decode cJ6_stringSize_0f7a4 28 = .ok (.iload_n 1, 1) := by decide +kernel
theorem dJ6_stringSize_0f7a4_29 : decode cJ6_stringSize_0f7a4 29 = .ok (.iadd, 1) := by decide +kernel
theorem dJ6_stringSize_0f7a4_30 : decode cJ6_stringSize_0f7a4 30 = .ok (.ireturn, 1) := by decide +kernel
theorem dJ6_stringSize_0f7a4_31 : decode cJ6_stringSize_0f7a4 31 = .ok (.bipush 10, 2) := by decide +kernel
theorem dJ6_stringSize_0f7a4_33 : decode cJ6_stringSize_0f7a4 33 = .ok (.iload_n 2, 1) := by decide +kernel
theorem dJ6_stringSize_0f7a4_34 : decode cJ6_stringSize_0f7a4 34 = .ok (.imul, 1) := by decide +kernel
theorem dJ6_stringSize_0f7a4_35 : decode cJ6_stringSize_0f7a4 35 = .ok (.istore_n 2, 1) := by decide +kernel
theorem dJ6_stringSize_0f7a4_36 : decode cJ6_stringSize_0f7a4 36 = .ok (.iinc 3 1, 3) := by decide +kernel
theorem dJ6_stringSize_0f7a4_39 : decode cJ6_stringSize_0f7a4 39 = .ok (.goto (-23), 3) := by decide +kernel
theorem dJ6_stringSize_0f7a4_42 : decode cJ6_stringSize_0f7a4 42 = .ok (.bipush 10, 2) := by decide +kernel
theorem dJ6_stringSize_0f7a4_44 : decode cJ6_stringSize_0f7a4 44 = .ok (.iload_n 1, 1) := by decide +kernel
theorem dJ6_stringSize_0f7a4_45 : decode cJ6_stringSize_0f7a4 45 = .ok (.iadd, 1) := by decide +kernel
theorem dJ6_stringSize_0f7a4_46 : decode cJ6_stringSize_0f7a4 46 = .ok (.ireturn, 1) := by decide +kernel
theorem dJ9_floorMod_7cf53_0 : decode cJ9_floorMod_7cf53 0 = .ok (.iload_n 0, 1) := by decide +kernel
theorem dJ9_floorMod_7cf53_1 : decode cJ9_floorMod_7cf53 1 = .ok (.iload_n 1, 1) := by decide +kernel
theorem dJ9_floorMod_7cf53_2 : decode cJ9_floorMod_7cf53 2 = .ok (.irem, 1) := by decide +kernel
theorem dJ9_floorMod_7cf53_3 : decode cJ9_floorMod_7cf53 3 = .ok (.istore_n 2, 1) := by decide +kernel
theorem dJ9_floorMod_7cf53_4 : decode cJ9_floorMod_7cf53 4 = .ok (.iload_n 0, 1) := by decide +kernel
theorem dJ9_floorMod_7cf53_5 : decode cJ9_floorMod_7cf53 5 = .ok (.iload_n 1, 1) := by decide +kernel
theorem dJ9_floorMod_7cf53_6 : decode cJ9_floorMod_7cf53 6 = .ok (.ixor, 1) := by decide +kernel
theorem dJ9_floorMod_7cf53_7 : decode cJ9_floorMod_7cf53 7 = .ok (.ifCond .ge 11, 3) := by decide +kernel
theorem dJ9_floorMod_7cf53_10 : decode cJ9_floorMod_7cf53 10 = .ok (.iload_n 2, 1) := by decide +kernel
theorem dJ9_floorMod_7cf53_11 : decode cJ9_floorMod_7cf53 11 = .ok (.ifCond .eq 7, 3) := by decide +kernel
theorem dJ9_floorMod_7cf53_14 : decode cJ9_floorMod_7cf53 14 = .ok (.iload_n 2, 1) := by decide +kernel
theorem dJ9_floorMod_7cf53_15 : decode cJ9_floorMod_7cf53 15 = .ok (.iload_n 1, 1) := by decide +kernel
theorem dJ9_floorMod_7cf53_16 : decode cJ9_floorMod_7cf53 16 = .ok (.iadd, 1) := by decide +kernel
theorem dJ9_floorMod_7cf53_17 : decode cJ9_floorMod_7cf53 17 = .ok (.ireturn, 1) := by decide +kernel
theorem dJ9_floorMod_7cf53_18 : decode cJ9_floorMod_7cf53 18 = .ok (.iload_n 2, 1) := by decide +kernel
theorem dJ9_floorMod_7cf53_19 : decode cJ9_floorMod_7cf53 19 = .ok (.ireturn, 1) := by decide +kernel
theorem dJ9_max_7cf53_0 : decode cJ9_max_7cf53 0 = .ok (.iload_n 0, 1) := by decide +kernel
theorem dJ9_max_7cf53_1 : decode cJ9_max_7cf53 1 = .ok (.iload_n 1, 1) := by decide +kernel
theorem dJ9_max_7cf53_2 : decode cJ9_max_7cf53 2 = .ok (.if_icmp .lt 7, 3) := by decide +kernel
theorem dJ9_max_7cf53_5 : decode cJ9_max_7cf53 5 = .ok (.iload_n 0, 1) := by decide +kernel
theorem dJ9_max_7cf53_6 : decode cJ9_max_7cf53 6 = .ok (.goto 4, 3) := by decide +kernel
theorem dJ9_max_7cf53_9 : decode cJ9_max_7cf53 9 = .ok (.iload_n 1, 1) := by decide +kernel
theorem dJ9_max_7cf53_10 : decode cJ9_max_7cf53 10 = .ok (.ireturn, 1) := by decide +kernel
theorem dJ9_min_7cf53_0 : decode cJ9_min_7cf53 0 = .ok (.iload_n 0, 1) := by decide +kernel
theorem dJ9_min_7cf53_1 : decode cJ9_min_7cf53 1 = .ok (.iload_n 1, 1) := by decide +kernel
theorem dJ9_min_7cf53_2 : decode cJ9_min_7cf53 2 = .ok (.if_icmp .gt 7, 3) := by decide +kernel
theorem dJ9_min_7cf53_5 : decode cJ9_min_7cf53 5 = .ok (.iload_n 0, 1) := by decide +kernel
theorem dJ9_min_7cf53_6 : decode cJ9_min_7cf53 6 = .ok (.goto 4, 3) := by decide +kernel
theorem dJ9_min_7cf53_9 : decode cJ9_min_7cf53 9 = .ok (.iload_n 1, 1) := by decide +kernel
theorem dJ9_min_7cf53_10 : decode cJ9_min_7cf53 10 = .ok (.ireturn, 1) := by decide +kernel
theorem dJ0_init_81219_0 : decode cJ0_init_81219 0 = .ok (.aload_n 0, 1) := by decide +kernel
theorem dJ0_init_81219_1 : decode cJ0_init_81219 1 = .ok (.aload_n 1, 1) := by decide +kernel
theorem dJ0_init_81219_2 : decode cJ0_init_81219 2 = .ok (.aconst_null, 1) := by decide +kernel
theorem dJ0_init_81219_3 : decode cJ0_init_81219 3 = .ok (.invokespecial 489, 3) := by decide +kernel
theorem dJ0_init_81219_6 : decode cJ0_init_81219 6 = .ok (.return_, 1) := by decide +kernel
theorem dJ0_length_8abf5_0 : decode cJ0_length_8abf5 0 = .ok (.aload_n 0, 1) := by decide +kernel
theorem dJ0_length_8abf5_1 : decode cJ0_length_8abf5 1 = .ok (.getfield 9, 3) := by decide +kernel
theorem dJ0_length_8abf5_4 : decode cJ0_length_8abf5 4 = .ok (.arraylength, 1) := by decide +kernel
theorem dJ0_length_8abf5_5 : decode cJ0_length_8abf5 5 = .ok (.aload_n 0, 1) := by decide +kernel
theorem dJ0_length_8abf5_6 : decode cJ0_length_8abf5 6 = .ok (.invokevirtual 335, 3) := by decide +kernel
theorem dJ0_length_8abf5_9 : decode cJ0_length_8abf5 9 = .ok (.ishr, 1) := by decide +kernel
theorem dJ0_length_8abf5_10 : decode cJ0_length_8abf5 10 = .ok (.ireturn, 1) := by decide +kernel
theorem dJ0_getBytes_840e7_0 : decode cJ0_getBytes_840e7 0 = .ok (.aload_n 0, 1) := by decide +kernel
theorem dJ0_getBytes_840e7_1 : decode cJ0_getBytes_840e7 1 = .ok (.invokevirtual 335, 3) := by decide +kernel
theorem dJ0_getBytes_840e7_4 : decode cJ0_getBytes_840e7 4 = .ok (.iload_n 3, 1) := by decide +kernel
theorem dJ0_getBytes_840e7_5 : decode cJ0_getBytes_840e7 5 = .ok (.if_icmp .ne 23, 3) := by decide +kernel
theorem dJ0_getBytes_840e7_8 : decode cJ0_getBytes_840e7 8 = .ok (.aload_n 0, 1) := by decide +kernel
theorem dJ0_getBytes_840e7_9 : decode cJ0_getBytes_840e7 9 = .ok (.getfield 9, 3) := by decide +kernel
theorem dJ0_getBytes_840e7_12 : decode cJ0_getBytes_840e7 12 = .ok (.iconst 0, 1) := by decide +kernel
theorem dJ0_getBytes_840e7_13 : decode cJ0_getBytes_840e7 13 = .ok (.aload_n 1, 1) := by decide +kernel
theorem dJ0_getBytes_840e7_14 : decode cJ0_getBytes_840e7 14 = .ok (.iload_n 2, 1) := by decide +kernel
theorem dJ0_getBytes_840e7_15 : decode cJ0_getBytes_840e7 15 = .ok (.iload_n 3, 1) := by decide +kernel
theorem dJ0_getBytes_840e7_16 : decode cJ0_getBytes_840e7 16 = .ok (.ishl, 1) := by decide +kernel
theorem dJ0_getBytes_840e7_17 : decode cJ0_getBytes_840e7 17 = .ok (.aload_n 0, 1) := by decide +kernel
theorem dJ0_getBytes_840e7_18 : decode cJ0_getBytes_840e7 18 = .ok (.getfield 9, 3) := by decide +kernel
theorem dJ0_getBytes_840e7_21 : decode cJ0_getBytes_840e7 21 = .ok (.arraylength, 1) := by decide +kernel
theorem dJ0_getBytes_840e7_22 : decode cJ0_getBytes_840e7 22 = .ok (.invokestatic 212, 3) := by decide +kernel
theorem dJ0_getBytes_840e7_25 : decode cJ0_getBytes_840e7 25 = .ok (.goto 18, 3) := by decide +kernel
theorem dJ0_getBytes_840e7_28 : decode cJ0_getBytes_840e7 28 = .ok (.aload_n 0, 1) := by decide +kernel
theorem dJ0_getBytes_840e7_29 : decode cJ0_getBytes_840e7 29 = .ok (.getfield 9, 3) := by decide +kernel
theorem dJ0_getBytes_840e7_32 : decode cJ0_getBytes_840e7 32 = .ok (.iconst 0, 1) := by decide +kernel
theorem dJ0_getBytes_840e7_33 : decode cJ0_getBytes_840e7 33 = .ok (.aload_n 1, 1) := by decide +kernel
theorem dJ0_getBytes_840e7_34 : decode cJ0_getBytes_840e7 34 = .ok (.iload_n 2, 1) := by decide +kernel
theorem dJ0_getBytes_840e7_35 : decode cJ0_getBytes_840e7 35 = .ok (.aload_n 0, 1) := by decide +kernel
theorem dJ0_getBytes_840e7_36 : decode cJ0_getBytes_840e7 36 = .ok (.getfield 9, 3) := by decide +kernel
theorem dJ0_getBytes_840e7_39 : decode cJ0_getBytes_840e7 39 = .ok (.arraylength, 1) := by decide +kernel
theorem dJ0_getBytes_840e7_40 : decode cJ0_getBytes_840e7 40 = .ok (.invokestatic 106, 3) := by decide +kernel
theorem dJ0_getBytes_840e7_43 : decode cJ0_getBytes_840e7 43 = .ok (.return_, 1) := by decide +kernel
theorem dJ0_init_db425_0 : decode cJ0_init_db425 0 = .ok (.aload_n 0, 1) := by decide +kernel
theorem dJ0_init_db425_1 : decode cJ0_init_db425 1 = .ok (.invokespecial 1, 3) := by decide +kernel
theorem dJ0_init_db425_4 : decode cJ0_init_db425 4 = .ok (.aload_n 1, 1) := by decide +kernel
theorem dJ0_init_db425_5 : decode cJ0_init_db425 5 = .ok (.invokevirtual 552, 3) := by decide +kernel
theorem dJ0_init_db425_8 : decode cJ0_init_db425 8 = .ok (.astore_n 3, 1) := by decide +kernel
theorem dJ0_init_db425_9 : decode cJ0_init_db425 9 = .ok (.aload_n 1, 1) := by decide +kernel
theorem dJ0_init_db425_10 : decode cJ0_init_db425 10 = .ok (.invokevirtual 549, 3) := by decide +kernel
theorem dJ0_init_db425_13 : decode cJ0_init_db425 13 = .ok (.istore 4, 2) := by decide +kernel
theorem dJ0_init_db425_15 : decode cJ0_init_db425 15 = .ok (.aload_n 1, 1) := by decide +kernel
theorem dJ0_init_db425_16 : decode cJ0_init_db425 16 = .ok (.invokevirtual 1047, 3) := by decide +kernel
theorem dJ0_init_db425_19 : decode cJ0_init_db425 19 = .ok (.ifCond .eq 22, 3) := by decide +kernel
theorem dJ0_init_db425_22 : decode cJ0_init_db425 22 = .ok (.aload_n 0, 1) := by decide +kernel
theorem dJ0_init_db425_23 : decode cJ0_init_db425 23 = .ok (.iconst 0, 1) := by decide +kernel
theorem dJ0_init_db425_24 : decode cJ0_init_db425 24 = .ok (.putfield 15, 3) := by decide +kernel
theorem dJ0_init_db425_27 : decode cJ0_init_db425 27 = .ok (.aload_n 0, 1) := by decide +kernel
theorem dJ0_init_db425_28 : decode cJ0_init_db425 28 = .ok (.aload_n 3, 1) := by decide +kernel
theorem dJ0_init_db425_29 : decode cJ0_init_db425 29 = .ok (.iconst 0, 1) := by decide +kernel
theorem dJ0_init_db425_30 : decode cJ0_init_db425 30 = .ok (.iload 4, 2) := by decide +kernel
theorem dJ0_init_db425_32 : decode cJ0_init_db425 32 = .ok (.invokestatic 54, 3) := by decide +kernel
theorem dJ0_init_db425_35 : decode cJ0_init_db425 35 = .ok (.putfield 9, 3) := by decide +kernel
theorem dJ0_init_db425_38 : decode cJ0_init_db425 38 = .ok (.goto 59, 3) := by decide +kernel
theorem dJ0_init_db425_41 : decode cJ0_init_db425 41 = .ok (.getstatic 38, 3) := by decide +kernel
theorem dJ0_init_db425_44 : decode cJ0_init_db425 44 = .ok (.ifCond .eq 35, 3) := by decide +kernel
theorem dJ0_init_db425_47 : decode cJ0_init_db425 47 = .ok (.aload_n 1, 1) := by decide +kernel
theorem dJ0_init_db425_48 : decode cJ0_init_db425 48 = .ok (.getfield 1048, 3) := by decide +kernel
theorem dJ0_init_db425_51 : decode cJ0_init_db425 51 = .ok (.ifCond .eq 28, 3) := by decide +kernel
theorem dJ0_init_db425_54 : decode cJ0_init_db425 54 = .ok (.aload_n 0, 1) := by decide +kernel
theorem dJ0_init_db425_55 : decode cJ0_init_db425 55 = .ok (.aload_n 3, 1) := by decide +kernel
theorem dJ0_init_db425_56 : decode cJ0_init_db425 56 = .ok (.iconst 0, 1) := by decide +kernel
theorem dJ0_init_db425_57 : decode cJ0_init_db425 57 = .ok (.iload 4, 2) := by decide +kernel
theorem dJ0_init_db425_59 : decode cJ0_init_db425 59 = .ok (.invokestatic 1051, 3) := by decide +kernel
theorem dJ0_init_db425_62 : decode cJ0_init_db425 62 = .ok (.putfield 9, 3) := by decide +kernel
theorem dJ0_init_db425_65 : decode cJ0_init_db425 65 = .ok (.aload_n 0, 1) := by decide +kernel
theorem dJ0_init_db425_66 : decode cJ0_init_db425 66 = .ok (.aload_n 0, 1) := by decide +kernel
theorem dJ0_init_db425_67 : decode cJ0_init_db425 67 = .ok (.getfield 9, 3) := by decide +kernel
theorem dJ0_init_db425_70 : decode cJ0_init_db425 70 = .ok (.iload 4, 2) := by decide +kernel
theorem dJ0_init_db425_72 : decode cJ0_init_db425 72 = .ok (.invokestatic 47, 3) := by decide +kernel
theorem dJ0_init_db425_75 : decode cJ0_init_db425 75 = .ok (.putfield 15, 3) := by decide +kernel
theorem dJ0_init_db425_78 : decode cJ0_init_db425 78 = .ok (.return_, 1) := by decide +kernel
theorem dJ0_init_db425_79 : decode cJ0_init_db425 79 = .ok (.aload_n 0, 1) := by decide +kernel
theorem dJ0_init_db425_80 : decode cJ0_init_db425 80 = .ok (.iconst 1, 1) := by decide +kernel
theorem dJ0_init_db425_81 : decode cJ0_init_db425 81 = .ok (.putfield 15, 3) := by decide +kernel
theorem dJ0_init_db425_84 : decode cJ0_init_db425 84 = .ok (.aload_n 0, 1) := by decide +kernel
theorem dJ0_init_db425_85 : decode cJ0_init_db425 85 = .ok (.aload_n 3, 1) := by decide +kernel
theorem dJ0_init_db425_86 : decode cJ0_init_db425 86 = .ok (.iconst 0, 1) := by decide +kernel
theorem dJ0_init_db425_87 : decode cJ0_init_db425 87 = .ok (.iload 4, 2) := by decide +kernel
theorem dJ0_init_db425_89 : decode cJ0_init_db425 89 = .ok (.iconst 1, 1) := by decide +kernel
theorem dJ0_init_db425_90 : decode cJ0_init_db425 90 = .ok (.ishl, 1) := by decide +kernel
theorem dJ0_init_db425_91 : decode cJ0_init_db425 91 = .ok (.invokestatic 54, 3) := by decide +kernel
theorem dJ0_init_db425_94 : decode cJ0_init_db425 94 = .ok (.putfield 9, 3) := by decide +kernel
theorem dJ0_init_db425_97 : decode cJ0_init_db425 97 = .ok (.return_, 1) := by decide +kernel
theorem dJ0_coder_7d493_0 : decode cJ0_coder_7d493 0 = .ok (.getstatic 38, 3) := by decide +kernel
theorem dJ0_coder_7d493_3 : decode cJ0_coder_7d493 3 = .ok (.ifCond .eq 10, 3) := by decide +kernel
theorem dJ0_coder_7d493_6 : decode cJ0_coder_7d493 6 = .ok (.aload_n 0, 1) := by decide +kernel
theorem dJ0_coder_7d493_7 : decode cJ0_coder_7d493 7 = .ok (.getfield 15, 3) := by decide +kernel
theorem dJ0_coder_7d493_10 : decode cJ0_coder_7d493 10 = .ok (.goto 4, 3) := by decide +kernel
theorem dJ0_coder_7d493_13 : decode cJ0_coder_7d493 13 = .ok (.iconst 1, 1) := by decide +kernel
theorem dJ0_coder_7d493_14 : decode cJ0_coder_7d493 14 = .ok (.ireturn, 1) := by decide +kernel
theorem dJ0_checkIndex_df160_0 : decode cJ0_checkIndex_df160 0 = .ok (.iload_n 0, 1) := by decide +kernel
theorem dJ0_checkIndex_df160_1 : decode cJ0_checkIndex_df160 1 = .ok (.iload_n 1, 1) := by decide +kernel
theorem dJ0_checkIndex_df160_2 : decode cJ0_checkIndex_df160 2 = .ok (.getstatic 1053, 3) := by decide +kernel
theorem dJ0_checkIndex_df160_5 : decode cJ0_checkIndex_df160 5 = .ok (.invokestatic 1059, 3) := by decide +kernel
theorem dJ0_checkIndex_df160_8 : decode cJ0_checkIndex_df160 8 = .ok (.pop, 1) := by decide +kernel
theorem dJ0_checkIndex_df160_9 : decode cJ0_checkIndex_df160 9 = .ok (.return_, 1) := by decide +kernel
theorem dJ0_checkBoundsOffCount_cabcc_0 : decode cJ0_checkBoundsOffCount_cabcc 0 = .ok (.iload_n 0, 1) := by decide +kernel
theorem dJ0_checkBoundsOffCount_cabcc_1 : decode cJ0_checkBoundsOffCount_cabcc 1 = .ok (.iload_n 1, 1) := by decide +kernel
theorem dJ0_checkBoundsOffCount_cabcc_2 : decode cJ0_checkBoundsOffCount_cabcc 2 = .ok (.iload_n 2, 1) := by decide +kernel
theorem dJ0_checkBoundsOffCount_cabcc_3 : decode cJ0_checkBoundsOffCount_cabcc 3 = .ok (.getstatic 1053, 3) := by decide +kernel
theorem dJ0_checkBoundsOffCount_cabcc_6 : decode cJ0_checkBoundsOffCount_cabcc 6 = .ok (.invokestatic 1065, 3) := by decide +kernel
theorem dJ0_checkBoundsOffCount_cabcc_9 : decode cJ0_checkBoundsOffCount_cabcc 9 = .ok (.ireturn, 1) := by decide +kernel
theorem dJ0_checkBoundsBeginEnd_23922_0 : decode cJ0_checkBoundsBeginEnd_23922 0 = .ok (.iload_n 0, 1) := by decide +kernel
theorem dJ0_checkBoundsBeginEnd_23922_1 : decode cJ0_checkBoundsBeginEnd_23922 1 = .ok (.iload_n 1, 1) := by decide +kernel
theorem dJ0_checkBoundsBeginEnd_23922_2 : decode cJ0_checkBoundsBeginEnd_23922 2 = .ok (.iload_n 2, 1) := by decide +kernel
theorem dJ0_checkBoundsBeginEnd_23922_3 : decode cJ0_checkBoundsBeginEnd_23922 3 = .ok (.getstatic 1053, 3) := by decide +kernel
theorem dJ0_checkBoundsBeginEnd_23922_6 : decode cJ0_checkBoundsBeginEnd_23922 6 = .ok (.invokestatic 1062, 3) := by decide +kernel
theorem dJ0_checkBoundsBeginEnd_23922_9 : decode cJ0_checkBoundsBeginEnd_23922 9 = .ok (.pop, 1) := by decide +kernel
theorem dJ0_checkBoundsBeginEnd_23922_10 : decode cJ0_checkBoundsBeginEnd_23922 10 = .ok (.return_, 1) := by decide +kernel
theorem dJ4_init_da8c8_0 : decode cJ4_init_da8c8 0 = .ok (.aload_n 0, 1) := by decide +kernel
theorem dJ4_init_da8c8_1 : decode cJ4_init_da8c8 1 = .ok (.bipush 16, 2) := by decide +kernel
theorem dJ4_init_da8c8_3 : decode cJ4_init_da8c8 3 = .ok (.invokespecial 1, 3) := by decide +kernel
theorem dJ4_init_da8c8_6 : decode cJ4_init_da8c8 6 = .ok (.return_, 1) := by decide +kernel
theorem dJ4_append_15ec4_0 : decode cJ4_append_15ec4 0 = .ok (.aload_n 0, 1) := by decide +kernel
theorem dJ4_append_15ec4_1 : decode cJ4_append_15ec4 1 = .ok (.aload_n 1, 1) := by decide +kernel
theorem dJ4_append_15ec4_2 : decode cJ4_append_15ec4 2 = .ok (.invokespecial 29, 3) := by decide +kernel
theorem dJ4_append_15ec4_5 : decode cJ4_append_15ec4 5 = .ok (.pop, 1) := by decide +kernel
theorem dJ4_append_15ec4_6 : decode cJ4_append_15ec4 6 = .ok (.aload_n 0, 1) := by decide +kernel
theorem dJ4_append_15ec4_7 : decode cJ4_append_15ec4 7 = .ok (.areturn, 1) := by decide +kernel
theorem dJ4_append_cf468_0 : decode cJ4_append_cf468 0 = .ok (.aload_n 0, 1) := by decide +kernel
theorem dJ4_append_cf468_1 : decode cJ4_append_cf468 1 = .ok (.iload_n 1, 1) := by decide +kernel
theorem dJ4_append_cf468_2 : decode cJ4_append_cf468 2 = .ok (.invokespecial 50, 3) := by decide +kernel
theorem dJ4_append_cf468_5 : decode cJ4_append_cf468 5 = .ok (.pop, 1) := by decide +kernel
theorem dJ4_append_cf468_6 : decode cJ4_append_cf468 6 = .ok (.aload_n 0, 1) := by decide +kernel
theorem dJ4_append_cf468_7 : decode cJ4_append_cf468 7 = .ok (.areturn, 1) := by decide +kernel
theorem dJ4_append_bf812_0 : decode cJ4_append_bf812 0 = .ok (.aload_n 0, 1) := by decide +kernel
theorem dJ4_append_bf812_1 : decode cJ4_append_bf812 1 = .ok (.iload_n 1, 1) := by decide +kernel
theorem dJ4_append_bf812_2 : decode cJ4_append_bf812 2 = .ok (.invokespecial 53, 3) := by decide +kernel
theorem dJ4_append_bf812_5 : decode cJ4_append_bf812 5 = .ok (.pop, 1) := by decide +kernel
theorem dJ4_append_bf812_6 : decode cJ4_append_bf812 6 = .ok (.aload_n 0, 1) := by decide +kernel
theorem dJ4_append_bf812_7 : decode cJ4_append_bf812 7 = .ok (.areturn, 1) := by decide +kernel
theorem dJ4_toString_0e30d_0 : decode cJ4_toString_0e30d 0 = .ok (.new 18, 3) := by decide +kernel
theorem dJ4_toString_0e30d_3 : decode cJ4_toString_0e30d 3 = .ok (.dup, 1) := by decide +kernel
theorem dJ4_toString_0e30d_4 : decode cJ4_toString_0e30d 4 = .ok (.aload_n 0, 1) := by decide +kernel
theorem dJ4_toString_0e30d_5 : decode cJ4_toString_0e30d 5 = .ok (.invokespecial 137, 3) := by decide +kernel
theorem dJ4_toString_0e30d_8 : decode cJ4_toString_0e30d 8 = .ok (.areturn, 1) := by decide +kernel
theorem dJ4_charAt_5068e_0 : decode cJ4_charAt_5068e 0 = .ok (.aload_n 0, 1) := by decide +kernel
theorem dJ4_charAt_5068e_1 : decode cJ4_charAt_5068e 1 = .ok (.iload_n 1, 1) := by decide +kernel
theorem dJ4_charAt_5068e_2 : decode cJ4_charAt_5068e 2 = .ok (.invokespecial 329, 3) := by decide +kernel
theorem dJ4_charAt_5068e_5 : decode cJ4_charAt_5068e 5 = .ok (.ireturn, 1) := by decide +kernel
theorem dJ4_setLength_d00df_0 : decode cJ4_setLength_d00df 0 = .ok (.aload_n 0, 1) := by decide +kernel
theorem dJ4_setLength_d00df_1 : decode cJ4_setLength_d00df 1 = .ok (.iload_n 1, 1) := by decide +kernel
theorem dJ4_setLength_d00df_2 : decode cJ4_setLength_d00df 2 = .ok (.invokespecial 333, 3) := by decide +kernel
theorem dJ4_setLength_d00df_5 : decode cJ4_setLength_d00df 5 = .ok (.return_, 1) := by decide +kernel
theorem dJ4_length_8abf5_0 : decode cJ4_length_8abf5 0 = .ok (.aload_n 0, 1) := by decide +kernel
theorem dJ4_length_8abf5_1 : decode cJ4_length_8abf5 1 = .ok (.invokespecial 343, 3) := by decide +kernel
theorem dJ4_length_8abf5_4 : decode cJ4_length_8abf5 4 = .ok (.ireturn, 1) := by decide +kernel
theorem dJx7c733_init_d00df_0 : decode cJx7c733_init_d00df 0 = .ok (.aload_n 0, 1) := by decide +kernel
theorem dJx7c733_init_d00df_1 : decode cJx7c733_init_d00df 1 = .ok (.new 10, 3) := by decide +kernel
theorem dJx7c733_init_d00df_4 : decode cJx7c733_init_d00df 4 = .ok (.dup, 1) := by decide +kernel
theorem dJx7c733_init_d00df_5 : decode cJx7c733_init_d00df 5 = .ok (.invokespecial 12, 3) := by decide +kernel
theorem dJx7c733_init_d00df_8 : decode cJx7c733_init_d00df 8 = .ok (.ldc 13, 2) := by decide +kernel
theorem dJx7c733_init_d00df_10 : decode cJx7c733_init_d00df 10 = .ok (.invokevirtual 15, 3) := by decide +kernel
theorem dJx7c733_init_d00df_13 : decode cJx7c733_init_d00df 13 = .ok (.iload_n 1, 1) := by decide +kernel
theorem dJx7c733_init_d00df_14 : decode cJx7c733_init_d00df 14 = .ok (.invokevirtual 19, 3) := by decide +kernel
theorem dJx7c733_init_d00df_17 : decode cJx7c733_init_d00df 17 = .ok (.invokevirtual 22, 3) := by decide +kernel
theorem dJx7c733_init_d00df_20 : decode cJx7c733_init_d00df 20 = .ok (.invokespecial 7, 3) := by decide +kernel
theorem dJx7c733_init_d00df_23 : decode cJx7c733_init_d00df 23 = .ok (.return_, 1) := by decide +kernel
theorem dJ1_canEncode_fc78d_0 : decode cJ1_canEncode_fc78d 0 = .ok (.iload_n 0, 1) := by decide +kernel
theorem dJ1_canEncode_fc78d_1 : decode cJ1_canEncode_fc78d 1 = .ok (.sipush 255, 3) := by decide +kernel
theorem dJ1_canEncode_fc78d_4 : decode cJ1_canEncode_fc78d 4 = .ok (.if_icmp .gt 7, 3) := by decide +kernel
theorem dJ1_canEncode_fc78d_7 : decode cJ1_canEncode_fc78d 7 = .ok (.iconst 1, 1) := by decide +kernel
theorem dJ1_canEncode_fc78d_8 : decode cJ1_canEncode_fc78d 8 = .ok (.goto 4, 3) := by decide +kernel
theorem dJ1_canEncode_fc78d_11 : decode cJ1_canEncode_fc78d 11 = .ok (.iconst 0, 1) := by decide +kernel
theorem dJ1_canEncode_fc78d_12 : decode cJ1_canEncode_fc78d 12 = .ok (.ireturn, 1) := by decide +kernel
theorem dJ1_fillNull_b72d1_0 : decode cJ1_fillNull_b72d1 0 = .ok (.aload_n 0, 1) := by decide +kernel
theorem dJ1_fillNull_b72d1_1 : decode cJ1_fillNull_b72d1 1 = .ok (.iload_n 1, 1) := by decide +kernel
theorem dJ1_fillNull_b72d1_2 : decode cJ1_fillNull_b72d1 2 = .ok (.iload_n 2, 1) := by decide +kernel
theorem dJ1_fillNull_b72d1_3 : decode cJ1_fillNull_b72d1 3 = .ok (.iconst 0, 1) := by decide +kernel
theorem dJ1_fillNull_b72d1_4 : decode cJ1_fillNull_b72d1 4 = .ok (.invokestatic 236, 3) := by decide +kernel
theorem dJ1_fillNull_b72d1_7 : decode cJ1_fillNull_b72d1 7 = .ok (.return_, 1) := by decide +kernel
theorem dJ1_inflate_0e8fd_0 : decode cJ1_inflate_0e8fd 0 = .ok (.aload_n 0, 1) := by decide +kernel
theorem dJ1_inflate_0e8fd_1 : decode cJ1_inflate_0e8fd 1 = .ok (.iload_n 1, 1) := by decide +kernel
theorem dJ1_inflate_0e8fd_2 : decode cJ1_inflate_0e8fd 2 = .ok (.aload_n 2, 1) := by decide +kernel
theorem dJ1_inflate_0e8fd_3 : decode cJ1_inflate_0e8fd 3 = .ok (.iload_n 3, 1) := by decide +kernel
theorem dJ1_inflate_0e8fd_4 : decode cJ1_inflate_0e8fd 4 = .ok (.iload 4, 2) := by decide +kernel
theorem dJ1_inflate_0e8fd_6 : decode cJ1_inflate_0e8fd 6 = .ok (.invokestatic 240, 3) := by decide +kernel
theorem dJ1_inflate_0e8fd_9 : decode cJ1_inflate_0e8fd 9 = .ok (.return_, 1) := by decide +kernel
theorem dJ2_newBytesFor_77867_0 : decode cJ2_newBytesFor_77867 0 = .ok (.iload_n 0, 1) := by decide +kernel
theorem dJ2_newBytesFor_77867_1 : decode cJ2_newBytesFor_77867 1 = .ok (.invokestatic 11, 3) := by decide +kernel
theorem dJ2_newBytesFor_77867_4 : decode cJ2_newBytesFor_77867 4 = .ok (.newarray .byte, 2) := by decide +kernel
theorem dJ2_newBytesFor_77867_6 : decode cJ2_newBytesFor_77867 6 = .ok (.areturn, 1) := by decide +kernel
theorem dJ2_newBytesLength_0f7a4_0 : decode cJ2_newBytesLength_0f7a4 0 = .ok (.iload_n 0, 1) := by decide +kernel
theorem dJ2_newBytesLength_0f7a4_1 : decode cJ2_newBytesLength_0f7a4 1 = .ok (.ifCond .ge 11, 3) := by decide +kernel
theorem dJ2_newBytesLength_0f7a4_4 : decode cJ2_newBytesLength_0f7a4 4 = .ok (.new 17, 3) := by decide +kernel
theorem dJ2_newBytesLength_0f7a4_7 : decode cJ2_newBytesLength_0f7a4 7 = .ok (.dup, 1) := by decide +kernel
theorem dJ2_newBytesLength_0f7a4_8 : decode cJ2_newBytesLength_0f7a4 8 = .ok (.invokespecial 19, 3) := by decide +kernel
theorem dJ2_newBytesLength_0f7a4_11 : decode cJ2_newBytesLength_0f7a4 11 = .ok (.athrow, 1) := by decide +kernel
theorem dJ2_newBytesLength_0f7a4_12 : decode cJ2_newBytesLength_0f7a4 12 = .ok (.iload_n 0, 1) := by decide +kernel
theorem dJ2_newBytesLength_0f7a4_13 : decode cJ2_newBytesLength_0f7a4 13 = .ok (.ldc 20, 2) := by decide +kernel
theorem dJ2_newBytesLength_0f7a4_15 : decode cJ2_newBytesLength_0f7a4 15 = .ok (.if_icmp .lt 40, 3) := by decide +kernel
theorem dJ2_newBytesLength_0f7a4_18 : decode cJ2_newBytesLength_0f7a4 18 = .ok (.new 21, 3) := by decide +kernel
theorem dJ2_newBytesLength_0f7a4_21 : decode cJ2_newBytesLength_0f7a4 21 = .ok (.dup, 1) := by decide +kernel
theorem dJ2_newBytesLength_0f7a4_22 : decode cJ2_newBytesLength_0f7a4 22 = .ok (.new 23, 3) := by decide +kernel
theorem dJ2_newBytesLength_0f7a4_25 : decode cJ2_newBytesLength_0f7a4 25 = .ok (.dup, 1) := by decide +kernel
theorem dJ2_newBytesLength_0f7a4_26 : decode cJ2_newBytesLength_0f7a4 26 = .ok (.invokespecial 25, 3) := by decide +kernel
theorem dJ2_newBytesLength_0f7a4_29 : decode cJ2_newBytesLength_0f7a4 29 = .ok (.ldc 26, 2) := by decide +kernel
theorem dJ2_newBytesLength_0f7a4_31 : decode cJ2_newBytesLength_0f7a4 31 = .ok (.invokevirtual 28, 3) := by decide +kernel
theorem dJ2_newBytesLength_0f7a4_34 : decode cJ2_newBytesLength_0f7a4 34 = .ok (.iload_n 0, 1) := by decide +kernel
theorem dJ2_newBytesLength_0f7a4_35 : decode cJ2_newBytesLength_0f7a4 35 = .ok (.invokevirtual 32, 3) := by decide +kernel
theorem dJ2_newBytesLength_0f7a4_38 : decode cJ2_newBytesLength_0f7a4 38 = .ok (.ldc 35, 2) := by decide +kernel
theorem dJ2_newBytesLength_0f7a4_40 : decode cJ2_newBytesLength_0f7a4 40 = .ok (.invokevirtual 28, 3) := by decide +kernel
theorem dJ2_newBytesLength_0f7a4_43 : decode cJ2_newBytesLength_0f7a4 43 = .ok (.ldc 20, 2) := by decide +kernel
theorem dJ2_newBytesLength_0f7a4_45 : decode cJ2_newBytesLength_0f7a4 45 = .ok (.invokevirtual 32, 3) := by decide +kernel
theorem dJ2_newBytesLength_0f7a4_48 : decode cJ2_newBytesLength_0f7a4 48 = .ok (.invokevirtual 37, 3) := by decide +kernel
theorem dJ2_newBytesLength_0f7a4_51 : decode cJ2_newBytesLength_0f7a4 51 = .ok (.invokespecial 41, 3) := by decide +kernel
theorem dJ2_newBytesLength_0f7a4_54 : decode cJ2_newBytesLength_0f7a4 54 = .ok (.athrow, 1) := by decide +kernel
theorem dJ2_newBytesLength_0f7a4_55 : decode cJ2_newBytesLength_0f7a4 55 = .ok (.iload_n 0, 1) := by decide +kernel
theorem dJ2_newBytesLength_0f7a4_56 : decode cJ2_newBytesLength_0f7a4 56 = .ok (.iconst 1, 1) := by decide +kernel
theorem dJ2_newBytesLength_0f7a4_57 : decode cJ2_newBytesLength_0f7a4 57 = .ok (.ishl, 1) := by decide +kernel
theorem dJ2_newBytesLength_0f7a4_58 : decode cJ2_newBytesLength_0f7a4 58 = .ok (.ireturn, 1) := by decide +kernel
theorem dJ2_putChar_b72d1_0 : decode cJ2_putChar_b72d1 0 = .ok (.getstatic 44, 3) := by decide +kernel
theorem dJ2_putChar_b72d1_3 : decode cJ2_putChar_b72d1 3 = .ok (.ifCond .ne 25, 3) := by decide +kernel
theorem dJ2_putChar_b72d1_6 : decode cJ2_putChar_b72d1 6 = .ok (.iload_n 1, 1) := by decide +kernel
theorem dJ2_putChar_b72d1_7 : decode cJ2_putChar_b72d1 7 = .ok (.ifCond .lt 11, 3) := by decide +kernel
theorem dJ2_putChar_b72d1_10 : decode cJ2_putChar_b72d1 10 = .ok (.iload_n 1, 1) := by decide +kernel
theorem dJ2_putChar_b72d1_11 : decode cJ2_putChar_b72d1 11 = .ok (.aload_n 0, 1) := by decide +kernel
theorem dJ2_putChar_b72d1_12 : decode cJ2_putChar_b72d1 12 = .ok (.invokestatic 48, 3) := by decide +kernel
theorem dJ2_putChar_b72d1_15 : decode cJ2_putChar_b72d1 15 = .ok (.if_icmp .lt 13, 3) := by decide +kernel
theorem dJ2_putChar_b72d1_18 : decode cJ2_putChar_b72d1 18 = .ok (.new 52, 3) := by decide +kernel
theorem dJ2_putChar_b72d1_21 : decode cJ2_putChar_b72d1 21 = .ok (.dup, 1) := by decide +kernel
theorem dJ2_putChar_b72d1_22 : decode cJ2_putChar_b72d1 22 = .ok (.ldc 54, 2) := by decide +kernel
theorem dJ2_putChar_b72d1_24 : decode cJ2_putChar_b72d1 24 = .ok (.invokespecial 56, 3) := by decide +kernel
theorem dJ2_putChar_b72d1_27 : decode cJ2_putChar_b72d1 27 = .ok (.athrow, 1) := by decide +kernel
theorem dJ2_putChar_b72d1_28 : decode cJ2_putChar_b72d1 28 = .ok (.iload_n 1, 1) := by decide +kernel
theorem dJ2_putChar_b72d1_29 : decode cJ2_putChar_b72d1 29 = .ok (.iconst 1, 1) := by decide +kernel
theorem dJ2_putChar_b72d1_30 : decode cJ2_putChar_b72d1 30 = .ok (.ishl, 1) := by decide +kernel
theorem dJ2_putChar_b72d1_31 : decode cJ2_putChar_b72d1 31 = .ok (.istore_n 1, 1) := by decide +kernel
theorem dJ2_putChar_b72d1_32 : decode cJ2_putChar_b72d1 32 = .ok (.aload_n 0, 1) := by decide +kernel
theorem dJ2_putChar_b72d1_33 : decode cJ2_putChar_b72d1 33 = .ok (.iload_n 1, 1) := by decide +kernel
theorem dJ2_putChar_b72d1_34 : decode cJ2_putChar_b72d1 34 = .ok (.iinc 1 1, 3) := by decide +kernel
theorem dJ2_putChar_b72d1_37 : decode cJ2_putChar_b72d1 37 = .ok (.iload_n 2, 1) := by decide +kernel
theorem dJ2_putChar_b72d1_38 : decode cJ2_putChar_b72d1 38 = .ok (.getstatic 59, 3) := by decide +kernel
theorem dJ2_putChar_b72d1_41 : decode cJ2_putChar_b72d1 41 = .ok (.ishr, 1) := by decide +kernel
theorem dJ2_putChar_b72d1_42 : decode cJ2_putChar_b72d1 42 = .ok (.i2b, 1) := by decide +kernel
theorem dJ2_putChar_b72d1_43 : decode cJ2_putChar_b72d1 43 = .ok (.bastore, 1) := by decide +kernel
theorem dJ2_putChar_b72d1_44 : decode cJ2_putChar_b72d1 44 = .ok (.aload_n 0, 1) := by decide +kernel
theorem dJ2_putChar_b72d1_45 : decode cJ2_putChar_b72d1 45 = .ok (.iload_n 1, 1) := by decide +kernel
theorem dJ2_putChar_b72d1_46 : decode cJ2_putChar_b72d1 46 = .ok (.iload_n 2, 1) := by decide +kernel
theorem dJ2_putChar_b72d1_47 : decode cJ2_putChar_b72d1 47 = .ok (.getstatic 63, 3) := by decide +kernel
theorem dJ2_putChar_b72d1_50 : decode cJ2_putChar_b72d1 50 = .ok (.ishr, 1) := by decide +kernel
theorem dJ2_putChar_b72d1_51 : decode cJ2_putChar_b72d1 51 = .ok (.i2b, 1) := by decide +kernel
theorem dJ2_putChar_b72d1_52 : decode cJ2_putChar_b72d1 52 = .ok (.bastore, 1) := by decide +kernel
theorem dJ2_putChar_b72d1_53 : decode cJ2_putChar_b72d1 53 = .ok (.return_, 1) := by decide +kernel
theorem dJ2_getChar_3b067_0 : decode cJ2_getChar_3b067 0 = .ok (.getstatic 44, 3) := by decide +kernel
theorem dJ2_getChar_3b067_3 : decode cJ2_getChar_3b067 3 = .ok (.ifCond .ne 25, 3) := by decide +kernel
theorem dJ2_getChar_3b067_6 : decode cJ2_getChar_3b067 6 = .ok (.iload_n 1, 1) := by decide +kernel
theorem dJ2_getChar_3b067_7 : decode cJ2_getChar_3b067 7 = .ok (.ifCond .lt 11, 3) := by decide +kernel
theorem dJ2_getChar_3b067_10 : decode cJ2_getChar_3b067 10 = .ok (.iload_n 1, 1) := by decide +kernel
theorem dJ2_getChar_3b067_11 : decode cJ2_getChar_3b067 11 = .ok (.aload_n 0, 1) := by decide +kernel
theorem dJ2_getChar_3b067_12 : decode cJ2_getChar_3b067 12 = .ok (.invokestatic 48, 3) := by decide +kernel
theorem dJ2_getChar_3b067_15 : decode cJ2_getChar_3b067 15 = .ok (.if_icmp .lt 13, 3) := by decide +kernel
theorem dJ2_getChar_3b067_18 : decode cJ2_getChar_3b067 18 = .ok (.new 52, 3) := by decide +kernel
theorem dJ2_getChar_3b067_21 : decode cJ2_getChar_3b067 21 = .ok (.dup, 1) := by decide +kernel
theorem dJ2_getChar_3b067_22 : decode cJ2_getChar_3b067 22 = .ok (.ldc 54, 2) := by decide +kernel
theorem dJ2_getChar_3b067_24 : decode cJ2_getChar_3b067 24 = .ok (.invokespecial 56, 3) := by decide +kernel
theorem dJ2_getChar_3b067_27 : decode cJ2_getChar_3b067 27 = .ok (.athrow, 1) := by decide +kernel
theorem dJ2_getChar_3b067_28 : decode cJ2_getChar_3b067 28 = .ok (.iload_n 1, 1) := by decide +kernel
theorem dJ2_getChar_3b067_29 : decode cJ2_getChar_3b067 29 = .ok (.iconst 1, 1) := by decide +kernel
theorem dJ2_getChar_3b067_30 : decode cJ2_getChar_3b067 30 = .ok (.ishl, 1) := by decide +kernel
theorem dJ2_getChar_3b067_31 : decode cJ2_getChar_3b067 31 = .ok (.istore_n 1, 1) := by decide +kernel
theorem dJ2_getChar_3b067_32 : decode cJ2_getChar_3b067 32 = .ok (.aload_n 0, 1) := by decide +kernel
theorem dJ2_getChar_3b067_33 : decode cJ2_getChar_3b067 33 = .ok (.iload_n 1, 1) := by decide +kernel
theorem dJ2_getChar_3b067_34 : decode cJ2_getChar_3b067 34 = .ok (.iinc 1 1, 3) := by decide +kernel
theorem dJ2_getChar_3b067_37 : decode cJ2_getChar_3b067 37 = .ok (.baload, 1) := by decide +kernel
theorem dJ2_getChar_3b067_38 : decode cJ2_getChar_3b067 38 = .ok (.sipush 255, 3) := by decide +kernel
theorem dJ2_getChar_3b067_41 : decode cJ2_getChar_3b067 41 = .ok (.iand, 1) := by decide +kernel
theorem dJ2_getChar_3b067_42 : decode cJ2_getChar_3b067 42 = .ok (.getstatic 59, 3) := by decide +kernel
theorem dJ2_getChar_3b067_45 : decode cJ2_getChar_3b067 45 = .ok (.ishl, 1) := by decide +kernel
theorem dJ2_getChar_3b067_46 : decode cJ2_getChar_3b067 46 = .ok (.aload_n 0, 1) := by decide +kernel
theorem dJ2_getChar_3b067_47 : decode cJ2_getChar_3b067 47 = .ok (.iload_n 1, 1) := by decide +kernel
theorem dJ2_getChar_3b067_48 : decode cJ2_getChar_3b067 48 = .ok (.baload, 1) := by decide +kernel
theorem dJ2_getChar_3b067_49 : decode cJ2_getChar_3b067 49 = .ok (.sipush 255, 3) := by decide +kernel
theorem dJ2_getChar_3b067_52 : decode cJ2_getChar_3b067 52 = .ok (.iand, 1) := by decide +kernel
theorem dJ2_getChar_3b067_53 : decode cJ2_getChar_3b067 53 = .ok (.getstatic 63, 3) := by decide +kernel
theorem dJ2_getChar_3b067_56 : decode cJ2_getChar_3b067 56 = .ok (.ishl, 1) := by decide +kernel
theorem dJ2_getChar_3b067_57 : decode cJ2_getChar_3b067 57 = .ok (.ior, 1) := by decide +kernel
theorem dJ2_getChar_3b067_58 : decode cJ2_getChar_3b067 58 = .ok (.i2c, 1) := by decide +kernel
theorem dJ2_getChar_3b067_59 : decode cJ2_getChar_3b067 59 = .ok (.ireturn, 1) := by decide +kernel
theorem dJ2_length_9d52b_0 : decode cJ2_length_9d52b 0 = .ok (.aload_n 0, 1) := by decide +kernel
theorem dJ2_length_9d52b_1 : decode cJ2_length_9d52b 1 = .ok (.arraylength, 1) := by decide +kernel
theorem dJ2_length_9d52b_2 : decode cJ2_length_9d52b 2 = .ok (.iconst 1, 1) := by decide +kernel
theorem dJ2_length_9d52b_3 : decode cJ2_length_9d52b 3 = .ok (.ishr, 1) := by decide +kernel
theorem dJ2_length_9d52b_4 : decode cJ2_length_9d52b 4 = .ok (.ireturn, 1) := by decide +kernel
theorem dJ2_coderFromArrayLen_85cad_0 : decode cJ2_coderFromArrayLen_85cad 0 = .ok (.iload_n 1, 1) := by decide +kernel
theorem dJ2_coderFromArrayLen_85cad_1 : decode cJ2_coderFromArrayLen_85cad 1 = .ok (.aload_n 0, 1) := by decide +kernel
theorem dJ2_coderFromArrayLen_85cad_2 : decode cJ2_coderFromArrayLen_85cad 2 = .ok (.arraylength, 1) := by decide +kernel
theorem dJ2_coderFromArrayLen_85cad_3 : decode cJ2_coderFromArrayLen_85cad 3 = .ok (.isub, 1) := by decide +kernel
theorem dJ2_coderFromArrayLen_85cad_4 : decode cJ2_coderFromArrayLen_85cad 4 = .ok (.bipush 31, 2) := by decide +kernel
theorem dJ2_coderFromArrayLen_85cad_6 : decode cJ2_coderFromArrayLen_85cad 6 = .ok (.iushr, 1) := by decide +kernel
theorem dJ2_coderFromArrayLen_85cad_7 : decode cJ2_coderFromArrayLen_85cad 7 = .ok (.i2b, 1) := by decide +kernel
theorem dJ2_coderFromArrayLen_85cad_8 : decode cJ2_coderFromArrayLen_85cad 8 = .ok (.ireturn, 1) := by decide +kernel
theorem dJ2_compress_39247_0 : decode cJ2_compress_39247 0 = .ok (.iload_n 2, 1) := by decide +kernel
theorem dJ2_compress_39247_1 : decode cJ2_compress_39247 1 = .ok (.newarray .byte, 2) := by decide +kernel
theorem dJ2_compress_39247_3 : decode cJ2_compress_39247 3 = .ok (.astore_n 3, 1) := by decide +kernel
theorem dJ2_compress_39247_4 : decode cJ2_compress_39247 4 = .ok (.aload_n 0, 1) := by decide +kernel
theorem dJ2_compress_39247_5 : decode cJ2_compress_39247 5 = .ok (.iload_n 1, 1) := by decide +kernel
theorem dJ2_compress_39247_6 : decode cJ2_compress_39247 6 = .ok (.aload_n 3, 1) := by decide +kernel
theorem dJ2_compress_39247_7 : decode cJ2_compress_39247 7 = .ok (.iconst 0, 1) := by decide +kernel
theorem dJ2_compress_39247_8 : decode cJ2_compress_39247 8 = .ok (.iload_n 2, 1) := by decide +kernel
theorem dJ2_compress_39247_9 : decode cJ2_compress_39247 9 = .ok (.invokestatic 123, 3) := by decide +kernel
theorem dJ2_compress_39247_12 : decode cJ2_compress_39247 12 = .ok (.istore 4, 2) := by decide +kernel
theorem dJ2_compress_39247_14 : decode cJ2_compress_39247 14 = .ok (.iload 4, 2) := by decide +kernel
theorem dJ2_compress_39247_16 : decode cJ2_compress_39247 16 = .ok (.iload_n 2, 1) := by decide +kernel
theorem dJ2_compress_39247_17 : decode cJ2_compress_39247 17 = .ok (.if_icmp .eq 47, 3) := by decide +kernel
theorem dJ2_compress_39247_20 : decode cJ2_compress_39247 20 = .ok (.aload_n 0, 1) := by decide +kernel
theorem dJ2_compress_39247_21 : decode cJ2_compress_39247 21 = .ok (.iload_n 1, 1) := by decide +kernel
theorem dJ2_compress_39247_22 : decode cJ2_compress_39247 22 = .ok (.iconst 1, 1) := by decide +kernel
theorem dJ2_compress_39247_23 : decode cJ2_compress_39247 23 = .ok (.ishl, 1) := by decide +kernel
theorem dJ2_compress_39247_24 : decode cJ2_compress_39247 24 = .ok (.iload_n 1, 1) := by decide +kernel
theorem dJ2_compress_39247_25 : decode cJ2_compress_39247 25 = .ok (.iload_n 2, 1) := by decide +kernel
theorem dJ2_compress_39247_26 : decode cJ2_compress_39247 26 = .ok (.iadd, 1) := by decide +kernel
theorem dJ2_compress_39247_27 : decode cJ2_compress_39247 27 = .ok (.invokestatic 11, 3) := by decide +kernel
theorem dJ2_compress_39247_30 : decode cJ2_compress_39247 30 = .ok (.invokestatic 126, 3) := by decide +kernel
theorem dJ2_compress_39247_33 : decode cJ2_compress_39247 33 = .ok (.astore 5, 2) := by decide +kernel
theorem dJ2_compress_39247_35 : decode cJ2_compress_39247 35 = .ok (.aload 5, 2) := by decide +kernel
theorem dJ2_compress_39247_37 : decode cJ2_compress_39247 37 = .ok (.iload 4, 2) := by decide +kernel
theorem dJ2_compress_39247_39 : decode cJ2_compress_39247 39 = .ok (.invokestatic 71, 3) := by decide +kernel
theorem dJ2_compress_39247_42 : decode cJ2_compress_39247 42 = .ok (.sipush 255, 3) := by decide +kernel
theorem dJ2_compress_39247_45 : decode cJ2_compress_39247 45 = .ok (.if_icmp .gt 16, 3) := by decide +kernel
theorem dJ2_compress_39247_48 : decode cJ2_compress_39247 48 = .ok (.aload 5, 2) := by decide +kernel
theorem dJ2_compress_39247_50 : decode cJ2_compress_39247 50 = .ok (.iconst 0, 1) := by decide +kernel
theorem dJ2_compress_39247_51 : decode cJ2_compress_39247 51 = .ok (.aload_n 3, 1) := by decide +kernel
theorem dJ2_compress_39247_52 : decode cJ2_compress_39247 52 = .ok (.iconst 0, 1) := by decide +kernel
theorem dJ2_compress_39247_53 : decode cJ2_compress_39247 53 = .ok (.iload_n 2, 1) := by decide +kernel
theorem dJ2_compress_39247_54 : decode cJ2_compress_39247 54 = .ok (.invokestatic 123, 3) := by decide +kernel
theorem dJ2_compress_39247_57 : decode cJ2_compress_39247 57 = .ok (.iload_n 2, 1) := by decide +kernel
theorem dJ2_compress_39247_58 : decode cJ2_compress_39247 58 = .ok (.if_icmp .eq 6, 3) := by decide +kernel
theorem dJ2_compress_39247_61 : decode cJ2_compress_39247 61 = .ok (.aload 5, 2) := by decide +kernel
theorem dJ2_compress_39247_63 : decode cJ2_compress_39247 63 = .ok (.areturn, 1) := by decide +kernel
theorem dJ2_compress_39247_64 : decode cJ2_compress_39247 64 = .ok (.aload_n 3, 1) := by decide +kernel
theorem dJ2_compress_39247_65 : decode cJ2_compress_39247 65 = .ok (.areturn, 1) := by decide +kernel
theorem dJ2_compress_5af95_0 : decode cJ2_compress_5af95 0 = .ok (.iload_n 1, 1) := by decide +kernel
theorem dJ2_compress_5af95_1 : decode cJ2_compress_5af95 1 = .ok (.iload 4, 2) := by decide +kernel
theorem dJ2_compress_5af95_3 : decode cJ2_compress_5af95 3 = .ok (.aload_n 0, 1) := by decide +kernel
theorem dJ2_compress_5af95_4 : decode cJ2_compress_5af95 4 = .ok (.invokestatic 173, 3) := by decide +kernel
theorem dJ2_compress_5af95_7 : decode cJ2_compress_5af95 7 = .ok (.iconst 0, 1) := by decide +kernel
theorem dJ2_compress_5af95_8 : decode cJ2_compress_5af95 8 = .ok (.istore 5, 2) := by decide +kernel
theorem dJ2_compress_5af95_10 : decode cJ2_compress_5af95 10 = .ok (.iload 5, 2) := by decide +kernel
theorem dJ2_compress_5af95_12 : decode cJ2_compress_5af95 12 = .ok (.iload 4, 2) := by decide +kernel
theorem dJ2_compress_5af95_14 : decode cJ2_compress_5af95 14 = .ok (.if_icmp .ge 39, 3) := by decide +kernel
theorem dJ2_compress_5af95_17 : decode cJ2_compress_5af95 17 = .ok (.aload_n 0, 1) := by decide +kernel
theorem dJ2_compress_5af95_18 : decode cJ2_compress_5af95 18 = .ok (.iload_n 1, 1) := by decide +kernel
theorem dJ2_compress_5af95_19 : decode cJ2_compress_5af95 19 = .ok (.invokestatic 71, 3) := by decide +kernel
theorem dJ2_compress_5af95_22 : decode cJ2_compress_5af95 22 = .ok (.istore 6, 2) := by decide +kernel
theorem dJ2_compress_5af95_24 : decode cJ2_compress_5af95 24 = .ok (.iload 6, 2) := by decide +kernel
theorem dJ2_compress_5af95_26 : decode cJ2_compress_5af95 26 = .ok (.sipush 255, 3) := by decide +kernel
theorem dJ2_compress_5af95_29 : decode cJ2_compress_5af95 29 = .ok (.if_icmp .le 6, 3) := by decide +kernel
theorem dJ2_compress_5af95_32 : decode cJ2_compress_5af95 32 = .ok (.iload 5, 2) := by decide +kernel
theorem dJ2_compress_5af95_34 : decode cJ2_compress_5af95 34 = .ok (.ireturn, 1) := by decide +kernel
theorem dJ2_compress_5af95_35 : decode cJ2_compress_5af95 35 = .ok (.aload_n 2, 1) := by decide +kernel
theorem dJ2_compress_5af95_36 : decode cJ2_compress_5af95 36 = .ok (.iload_n 3, 1) := by decide +kernel
theorem dJ2_compress_5af95_37 : decode cJ2_compress_5af95 37 = .ok (.iload 6, 2) := by decide +kernel
theorem dJ2_compress_5af95_39 : decode cJ2_compress_5af95 39 = .ok (.i2b, 1) := by decide +kernel
theorem dJ2_compress_5af95_40 : decode cJ2_compress_5af95 40 = .ok (.bastore, 1) := by decide +kernel
theorem dJ2_compress_5af95_41 : decode cJ2_compress_5af95 41 = .ok (.iinc 1 1, 3) := by decide +kernel
theorem dJ2_compress_5af95_44 : decode cJ2_compress_5af95 44 = .ok (.iinc 3 1, 3) := by decide +kernel
theorem dJ2_compress_5af95_47 : decode cJ2_compress_5af95 47 = .ok (.iinc 5 1, 3) := by decide +kernel
theorem dJ2_compress_5af95_50 : decode cJ2_compress_5af95 50 = .ok (.goto (-40), 3) := by decide +kernel
theorem dJ2_compress_5af95_53 : decode cJ2_compress_5af95 53 = .ok (.iload 4, 2) := by decide +kernel
theorem dJ2_compress_5af95_55 : decode cJ2_compress_5af95 55 = .ok (.ireturn, 1) := by decide +kernel
theorem dJ2_fillNull_b72d1_0 : decode cJ2_fillNull_b72d1 0 = .ok (.aload_n 0, 1) := by decide +kernel
theorem dJ2_fillNull_b72d1_1 : decode cJ2_fillNull_b72d1 1 = .ok (.iload_n 1, 1) := by decide +kernel
theorem dJ2_fillNull_b72d1_2 : decode cJ2_fillNull_b72d1 2 = .ok (.iconst 1, 1) := by decide +kernel
theorem dJ2_fillNull_b72d1_3 : decode cJ2_fillNull_b72d1 3 = .ok (.ishl, 1) := by decide +kernel
theorem dJ2_fillNull_b72d1_4 : decode cJ2_fillNull_b72d1 4 = .ok (.iload_n 2, 1) := by decide +kernel
theorem dJ2_fillNull_b72d1_5 : decode cJ2_fillNull_b72d1 5 = .ok (.iconst 1, 1) := by decide +kernel
theorem dJ2_fillNull_b72d1_6 : decode cJ2_fillNull_b72d1 6 = .ok (.ishl, 1) := by decide +kernel
theorem dJ2_fillNull_b72d1_7 : decode cJ2_fillNull_b72d1 7 = .ok (.iconst 0, 1) := by decide +kernel
theorem dJ2_fillNull_b72d1_8 : decode cJ2_fillNull_b72d1 8 = .ok (.invokestatic 380, 3) := by decide +kernel
theorem dJ2_fillNull_b72d1_11 : decode cJ2_fillNull_b72d1 11 = .ok (.return_, 1) := by decide +kernel
theorem dJ2_putCharSB_b72d1_0 : decode cJ2_putCharSB_b72d1 0 = .ok (.iload_n 1, 1) := by decide +kernel
theorem dJ2_putCharSB_b72d1_1 : decode cJ2_putCharSB_b72d1 1 = .ok (.aload_n 0, 1) := by decide +kernel
theorem dJ2_putCharSB_b72d1_2 : decode cJ2_putCharSB_b72d1 2 = .ok (.invokestatic 67, 3) := by decide +kernel
theorem dJ2_putCharSB_b72d1_5 : decode cJ2_putCharSB_b72d1 5 = .ok (.aload_n 0, 1) := by decide +kernel
theorem dJ2_putCharSB_b72d1_6 : decode cJ2_putCharSB_b72d1 6 = .ok (.iload_n 1, 1) := by decide +kernel
theorem dJ2_putCharSB_b72d1_7 : decode cJ2_putCharSB_b72d1 7 = .ok (.iload_n 2, 1) := by decide +kernel
theorem dJ2_putCharSB_b72d1_8 : decode cJ2_putCharSB_b72d1 8 = .ok (.invokestatic 111, 3) := by decide +kernel
theorem dJ2_putCharSB_b72d1_11 : decode cJ2_putCharSB_b72d1 11 = .ok (.return_, 1) := by decide +kernel
theorem dJ2_getChars_46870_0 : decode cJ2_getChars_46870 0 = .ok (.iload_n 1, 1) := by decide +kernel
theorem dJ2_getChars_46870_1 : decode cJ2_getChars_46870 1 = .ok (.iload_n 2, 1) := by decide +kernel
theorem dJ2_getChars_46870_2 : decode cJ2_getChars_46870 2 = .ok (.aload_n 3, 1) := by decide +kernel
theorem dJ2_getChars_46870_3 : decode cJ2_getChars_46870 3 = .ok (.invokestatic 96, 3) := by decide +kernel
theorem dJ2_getChars_46870_6 : decode cJ2_getChars_46870 6 = .ok (.iload_n 0, 1) := by decide +kernel
theorem dJ2_getChars_46870_7 : decode cJ2_getChars_46870 7 = .ok (.iload_n 2, 1) := by decide +kernel
theorem dJ2_getChars_46870_8 : decode cJ2_getChars_46870 8 = .ok (.aload_n 3, 1) := by decide +kernel
theorem dJ2_getChars_46870_9 : decode cJ2_getChars_46870 9 = .ok (.invokestatic 393, 3) := by decide +kernel
theorem dJ2_getChars_46870_12 : decode cJ2_getChars_46870 12 = .ok (.istore 4, 2) := by decide +kernel
theorem dJ2_getChars_46870_14 : decode cJ2_getChars_46870 14 = .ok (.getstatic 44, 3) := by decide +kernel
theorem dJ2_getChars_46870_17 : decode cJ2_getChars_46870 17 = .ok (.ifCond .ne 17, 3) := by decide +kernel
theorem dJ2_getChars_46870_20 : decode cJ2_getChars_46870 20 = .ok (.iload_n 1, 1) := by decide +kernel
theorem dJ2_getChars_46870_21 : decode cJ2_getChars_46870 21 = .ok (.iload 4, 2) := by decide +kernel
theorem dJ2_getChars_46870_23 : decode cJ2_getChars_46870 23 = .ok (.if_icmp .eq 11, 3) := by decide +kernel
theorem dJ2_getChars_46870_26 : decode cJ2_getChars_46870 26 = .ok (.new 52, 3) := by decide +kernel
theorem dJ2_getChars_46870_29 : decode cJ2_getChars_46870 29 = .ok (.dup, 1) := by decide +kernel
theorem dJ2_getChars_46870_30 : decode cJ2_getChars_46870 30 = .ok (.invokespecial 66, 3) := by decide +kernel
theorem dJ2_getChars_46870_33 : decode cJ2_getChars_46870 33 = .ok (.athrow, 1) := by decide +kernel
theorem dJ2_getChars_46870_34 : decode cJ2_getChars_46870 34 = .ok (.iload 4, 2) := by decide +kernel
theorem dJ2_getChars_46870_36 : decode cJ2_getChars_46870 36 = .ok (.ireturn, 1) := by decide +kernel
theorem dJ2_putCharsAt_cd4e5_0 : decode cJ2_putCharsAt_cd4e5 0 = .ok (.iload_n 1, 1) := by decide +kernel
theorem dJ2_putCharsAt_cd4e5_1 : decode cJ2_putCharsAt_cd4e5 1 = .ok (.iconst 4, 1) := by decide +kernel
theorem dJ2_putCharsAt_cd4e5_2 : decode cJ2_putCharsAt_cd4e5 2 = .ok (.iadd, 1) := by decide +kernel
theorem dJ2_putCharsAt_cd4e5_3 : decode cJ2_putCharsAt_cd4e5 3 = .ok (.istore 6, 2) := by decide +kernel
theorem dJ2_putCharsAt_cd4e5_5 : decode cJ2_putCharsAt_cd4e5 5 = .ok (.iload_n 1, 1) := by decide +kernel
theorem dJ2_putCharsAt_cd4e5_6 : decode cJ2_putCharsAt_cd4e5 6 = .ok (.iload 6, 2) := by decide +kernel
theorem dJ2_putCharsAt_cd4e5_8 : decode cJ2_putCharsAt_cd4e5 8 = .ok (.aload_n 0, 1) := by decide +kernel
theorem dJ2_putCharsAt_cd4e5_9 : decode cJ2_putCharsAt_cd4e5 9 = .ok (.invokestatic 96, 3) := by decide +kernel
theorem dJ2_putCharsAt_cd4e5_12 : decode cJ2_putCharsAt_cd4e5 12 = .ok (.aload_n 0, 1) := by decide +kernel
theorem dJ2_putCharsAt_cd4e5_13 : decode cJ2_putCharsAt_cd4e5 13 = .ok (.iload_n 1, 1) := by decide +kernel
theorem dJ2_putCharsAt_cd4e5_14 : decode cJ2_putCharsAt_cd4e5 14 = .ok (.iinc 1 1, 3) := by decide +kernel
theorem dJ2_putCharsAt_cd4e5_17 : decode cJ2_putCharsAt_cd4e5 17 = .ok (.iload_n 2, 1) := by decide +kernel
theorem dJ2_putCharsAt_cd4e5_18 : decode cJ2_putCharsAt_cd4e5 18 = .ok (.invokestatic 111, 3) := by decide +kernel
theorem dJ2_putCharsAt_cd4e5_21 : decode cJ2_putCharsAt_cd4e5 21 = .ok (.aload_n 0, 1) := by decide +kernel
theorem dJ2_putCharsAt_cd4e5_22 : decode cJ2_putCharsAt_cd4e5 22 = .ok (.iload_n 1, 1) := by decide +kernel
theorem dJ2_putCharsAt_cd4e5_23 : decode cJ2_putCharsAt_cd4e5 23 = .ok (.iinc 1 1, 3) := by decide +kernel
theorem dJ2_putCharsAt_cd4e5_26 : decode cJ2_putCharsAt_cd4e5 26 = .ok (.iload_n 3, 1) := by decide +kernel
theorem dJ2_putCharsAt_cd4e5_27 : decode cJ2_putCharsAt_cd4e5 27 = .ok (.invokestatic 111, 3) := by decide +kernel
theorem dJ2_putCharsAt_cd4e5_30 : decode cJ2_putCharsAt_cd4e5 30 = .ok (.aload_n 0, 1) := by decide +kernel
theorem dJ2_putCharsAt_cd4e5_31 : decode cJ2_putCharsAt_cd4e5 31 = .ok (.iload_n 1, 1) := by decide +kernel
theorem dJ2_putCharsAt_cd4e5_32 : decode cJ2_putCharsAt_cd4e5 32 = .ok (.iinc 1 1, 3) := by decide +kernel
theorem dJ2_putCharsAt_cd4e5_35 : decode cJ2_putCharsAt_cd4e5 35 = .ok (.iload 4, 2) := by decide +kernel
theorem dJ2_putCharsAt_cd4e5_37 : decode cJ2_putCharsAt_cd4e5 37 = .ok (.invokestatic 111, 3) := by decide +kernel
theorem dJ2_putCharsAt_cd4e5_40 : decode cJ2_putCharsAt_cd4e5 40 = .ok (.aload_n 0, 1) := by decide +kernel
theorem dJ2_putCharsAt_cd4e5_41 : decode cJ2_putCharsAt_cd4e5 41 = .ok (.iload_n 1, 1) := by decide +kernel
theorem dJ2_putCharsAt_cd4e5_42 : decode cJ2_putCharsAt_cd4e5 42 = .ok (.iinc 1 1, 3) := by decide +kernel
theorem dJ2_putCharsAt_cd4e5_45 : decode cJ2_putCharsAt_cd4e5 45 = .ok (.iload 5, 2) := by decide +kernel
theorem dJ2_putCharsAt_cd4e5_47 : decode cJ2_putCharsAt_cd4e5 47 = .ok (.invokestatic 111, 3) := by decide +kernel
theorem dJ2_putCharsAt_cd4e5_50 : decode cJ2_putCharsAt_cd4e5 50 = .ok (.getstatic 44, 3) := by decide +kernel
theorem dJ2_putCharsAt_cd4e5_53 : decode cJ2_putCharsAt_cd4e5 53 = .ok (.ifCond .ne 17, 3) := by decide +kernel
theorem dJ2_putCharsAt_cd4e5_56 : decode cJ2_putCharsAt_cd4e5 56 = .ok (.iload_n 1, 1) := by decide +kernel
theorem dJ2_putCharsAt_cd4e5_57 : decode cJ2_putCharsAt_cd4e5 57 = .ok (.iload 6, 2) := by decide +kernel
theorem dJ2_putCharsAt_cd4e5_59 : decode cJ2_putCharsAt_cd4e5 59 = .ok (.if_icmp .eq 11, 3) := by decide +kernel
theorem dJ2_putCharsAt_cd4e5_62 : decode cJ2_putCharsAt_cd4e5 62 = .ok (.new 52, 3) := by decide +kernel
theorem dJ2_putCharsAt_cd4e5_65 : decode cJ2_putCharsAt_cd4e5 65 = .ok (.dup, 1) := by decide +kernel
theorem dJ2_putCharsAt_cd4e5_66 : decode cJ2_putCharsAt_cd4e5 66 = .ok (.invokespecial 66, 3) := by decide +kernel
theorem dJ2_putCharsAt_cd4e5_69 : decode cJ2_putCharsAt_cd4e5 69 = .ok (.athrow, 1) := by decide +kernel
theorem dJ2_putCharsAt_cd4e5_70 : decode cJ2_putCharsAt_cd4e5 70 = .ok (.iload 6, 2) := by decide +kernel
theorem dJ2_putCharsAt_cd4e5_72 : decode cJ2_putCharsAt_cd4e5 72 = .ok (.ireturn, 1) := by decide +kernel
theorem dJ2_inflate_0e8fd_0 : decode cJ2_inflate_0e8fd 0 = .ok (.iload_n 3, 1) := by decide +kernel
theorem dJ2_inflate_0e8fd_1 : decode cJ2_inflate_0e8fd 1 = .ok (.iload 4, 2) := by decide +kernel
theorem dJ2_inflate_0e8fd_3 : decode cJ2_inflate_0e8fd 3 = .ok (.aload_n 2, 1) := by decide +kernel
theorem dJ2_inflate_0e8fd_4 : decode cJ2_inflate_0e8fd 4 = .ok (.invokestatic 173, 3) := by decide +kernel
theorem dJ2_inflate_0e8fd_7 : decode cJ2_inflate_0e8fd 7 = .ok (.iconst 0, 1) := by decide +kernel
theorem dJ2_inflate_0e8fd_8 : decode cJ2_inflate_0e8fd 8 = .ok (.istore 5, 2) := by decide +kernel
theorem dJ2_inflate_0e8fd_10 : decode cJ2_inflate_0e8fd 10 = .ok (.iload 5, 2) := by decide +kernel
theorem dJ2_inflate_0e8fd_12 : decode cJ2_inflate_0e8fd 12 = .ok (.iload 4, 2) := by decide +kernel
theorem dJ2_inflate_0e8fd_14 : decode cJ2_inflate_0e8fd 14 = .ok (.if_icmp .ge 27, 3) := by decide +kernel
theorem dJ2_inflate_0e8fd_17 : decode cJ2_inflate_0e8fd 17 = .ok (.aload_n 2, 1) := by decide +kernel
theorem dJ2_inflate_0e8fd_18 : decode cJ2_inflate_0e8fd 18 = .ok (.iload_n 3, 1) := by decide +kernel
theorem dJ2_inflate_0e8fd_19 : decode cJ2_inflate_0e8fd 19 = .ok (.iinc 3 1, 3) := by decide +kernel
theorem dJ2_inflate_0e8fd_22 : decode cJ2_inflate_0e8fd 22 = .ok (.aload_n 0, 1) := by decide +kernel
theorem dJ2_inflate_0e8fd_23 : decode cJ2_inflate_0e8fd 23 = .ok (.iload_n 1, 1) := by decide +kernel
theorem dJ2_inflate_0e8fd_24 : decode cJ2_inflate_0e8fd 24 = .ok (.iinc 1 1, 3) := by decide +kernel
theorem dJ2_inflate_0e8fd_27 : decode cJ2_inflate_0e8fd 27 = .ok (.baload, 1) := by decide +kernel
theorem dJ2_inflate_0e8fd_28 : decode cJ2_inflate_0e8fd 28 = .ok (.sipush 255, 3) := by decide +kernel
theorem dJ2_inflate_0e8fd_31 : decode cJ2_inflate_0e8fd 31 = .ok (.iand, 1) := by decide +kernel
theorem dJ2_inflate_0e8fd_32 : decode cJ2_inflate_0e8fd 32 = .ok (.invokestatic 111, 3) := by decide +kernel
theorem dJ2_inflate_0e8fd_35 : decode cJ2_inflate_0e8fd 35 = .ok (.iinc 5 1, 3) := by decide +kernel
theorem dJ2_inflate_0e8fd_38 : decode cJ2_inflate_0e8fd 38 = .ok (.goto (-28), 3) := by decide +kernel
theorem dJ2_inflate_0e8fd_41 : decode cJ2_inflate_0e8fd 41 = .ok (.return_, 1) := by decide +kernel
theorem dJ2_getChars_ba4f3_0 : decode cJ2_getChars_ba4f3 0 = .ok (.iload_n 1, 1) := by decide +kernel
theorem dJ2_getChars_ba4f3_1 : decode cJ2_getChars_ba4f3 1 = .ok (.istore 5, 2) := by decide +kernel
theorem dJ2_getChars_ba4f3_3 : decode cJ2_getChars_ba4f3 3 = .ok (.iload_n 0, 1) := by decide +kernel
theorem dJ2_getChars_ba4f3_4 : decode cJ2_getChars_ba4f3 4 = .ok (.ifCond .ge 7, 3) := by decide +kernel
theorem dJ2_getChars_ba4f3_7 : decode cJ2_getChars_ba4f3 7 = .ok (.iconst 1, 1) := by decide +kernel
theorem dJ2_getChars_ba4f3_8 : decode cJ2_getChars_ba4f3 8 = .ok (.goto 4, 3) := by decide +kernel
theorem dJ2_getChars_ba4f3_11 : decode cJ2_getChars_ba4f3 11 = .ok (.iconst 0, 1) := by decide +kernel
theorem dJ2_getChars_ba4f3_12 : decode cJ2_getChars_ba4f3 12 = .ok (.istore 6, 2) := by decide +kernel
theorem dJ2_getChars_ba4f3_14 : decode cJ2_getChars_ba4f3 14 = .ok (.iload 6, 2) := by decide +kernel
theorem dJ2_getChars_ba4f3_16 : decode cJ2_getChars_ba4f3 16 = .ok (.ifCond .ne 6, 3) := by decide +kernel
theorem dJ2_getChars_ba4f3_19 : decode cJ2_getChars_ba4f3 19 = .ok (.iload_n 0, 1) := by decide +kernel
theorem dJ2_getChars_ba4f3_20 : decode cJ2_getChars_ba4f3 20 = .ok (.ineg, 1) := by decide +kernel
theorem dJ2_getChars_ba4f3_21 : decode cJ2_getChars_ba4f3 21 = .ok (.istore_n 0, 1) := by decide +kernel
theorem dJ2_getChars_ba4f3_22 : decode cJ2_getChars_ba4f3 22 = .ok (.iload_n 0, 1) := by decide +kernel
theorem dJ2_getChars_ba4f3_23 : decode cJ2_getChars_ba4f3 23 = .ok (.bipush (-100), 2) := by decide +kernel
theorem dJ2_getChars_ba4f3_25 : decode cJ2_getChars_ba4f3 25 = .ok (.if_icmp .gt 51, 3) := by decide +kernel
theorem dJ2_getChars_ba4f3_28 : decode cJ2_getChars_ba4f3 28 = .ok (.iload_n 0, 1) := by decide +kernel
theorem dJ2_getChars_ba4f3_29 : decode cJ2_getChars_ba4f3 29 = .ok (.bipush 100, 2) := by decide +kernel
theorem dJ2_getChars_ba4f3_31 : decode cJ2_getChars_ba4f3 31 = .ok (.idiv, 1) := by decide +kernel
theorem dJ2_getChars_ba4f3_32 : decode cJ2_getChars_ba4f3 32 = .ok (.istore_n 3, 1) := by decide +kernel
theorem dJ2_getChars_ba4f3_33 : decode cJ2_getChars_ba4f3 33 = .ok (.iload_n 3, 1) := by decide +kernel
theorem dJ2_getChars_ba4f3_34 : decode cJ2_getChars_ba4f3 34 = .ok (.bipush 100, 2) := by decide +kernel
theorem dJ2_getChars_ba4f3_36 : decode cJ2_getChars_ba4f3 36 = .ok (.imul, 1) := by decide +kernel
theorem dJ2_getChars_ba4f3_37 : decode cJ2_getChars_ba4f3 37 = .ok (.iload_n 0, 1) := by decide +kernel
theorem dJ2_getChars_ba4f3_38 : decode cJ2_getChars_ba4f3 38 = .ok (.isub, 1) := by decide +kernel
theorem dJ2_getChars_ba4f3_39 : decode cJ2_getChars_ba4f3 39 = .ok (.istore 4, 2) := by decide +kernel
theorem dJ2_getChars_ba4f3_41 : decode cJ2_getChars_ba4f3 41 = .ok (.iload_n 3, 1) := by decide +kernel
theorem dJ2_getChars_ba4f3_42 : decode cJ2_getChars_ba4f3 42 = .ok (.istore_n 0, 1) := by decide +kernel
theorem dJ2_getChars_ba4f3_43 : decode cJ2_getChars_ba4f3 43 = .ok (.aload_n 2, 1) := by decide +kernel
theorem dJ2_getChars_ba4f3_44 : decode cJ2_getChars_ba4f3 44 = .ok (.iinc 5 (-1), 3) := by decide +kernel
theorem dJ2_getChars_ba4f3_47 : decode cJ2_getChars_ba4f3 47 = .ok (.iload 5, 2) := by decide +kernel
theorem dJ2_getChars_ba4f3_49 : decode cJ2_getChars_ba4f3 49 = .ok (.getstatic 403, 3) := by decide +kernel
theorem dJ2_getChars_ba4f3_52 : decode cJ2_getChars_ba4f3 52 = .ok (.iload 4, 2) := by decide +kernel
theorem dJ2_getChars_ba4f3_54 : decode cJ2_getChars_ba4f3 54 = .ok (.baload, 1) := by decide +kernel
theorem dJ2_getChars_ba4f3_55 : decode cJ2_getChars_ba4f3 55 = .ok (.invokestatic 111, 3) := by decide +kernel
theorem dJ2_getChars_ba4f3_58 : decode cJ2_getChars_ba4f3 58 = .ok (.aload_n 2, 1) := by decide +kernel
theorem dJ2_getChars_ba4f3_59 : decode cJ2_getChars_ba4f3 59 = .ok (.iinc 5 (-1), 3) := by decide +kernel
theorem dJ2_getChars_ba4f3_62 : decode cJ2_getChars_ba4f3 62 = .ok (.iload 5, 2) := by decide +kernel
theorem dJ2_getChars_ba4f3_64 : decode cJ2_getChars_ba4f3 64 = .ok (.getstatic 407, 3) := by decide +kernel
theorem dJ2_getChars_ba4f3_67 : decode cJ2_getChars_ba4f3 67 = .ok (.iload 4, 2) := by decide +kernel
theorem dJ2_getChars_ba4f3_69 : decode cJ2_getChars_ba4f3 69 = .ok (.baload, 1) := by decide +kernel
theorem dJ2_getChars_ba4f3_70 : decode cJ2_getChars_ba4f3 70 = .ok (.invokestatic 111, 3) := by decide +kernel
theorem dJ2_getChars_ba4f3_73 : decode cJ2_getChars_ba4f3 73 = .ok (.goto (-51), 3) := by decide +kernel
theorem dJ2_getChars_ba4f3_76 : decode cJ2_getChars_ba4f3 76 = .ok (.aload_n 2, 1) := by decide +kernel
theorem dJ2_getChars_ba4f3_77 : decode cJ2_getChars_ba4f3 77 = .ok (.iinc 5 (-1), 3) := by decide +kernel
theorem dJ2_getChars_ba4f3_80 : decode cJ2_getChars_ba4f3 80 = .ok (.iload 5, 2) := by decide +kernel
theorem dJ2_getChars_ba4f3_82 : decode cJ2_getChars_ba4f3 82 = .ok (.getstatic 403, 3) := by decide +kernel
theorem dJ2_getChars_ba4f3_85 : decode cJ2_getChars_ba4f3 85 = .ok (.iload_n 0, 1) := by decide +kernel
theorem dJ2_getChars_ba4f3_86 : decode cJ2_getChars_ba4f3 86 = .ok (.ineg, 1) := by decide +kernel
theorem dJ2_getChars_ba4f3_87 : decode cJ2_getChars_ba4f3 87 = .ok (.baload, 1) := by decide +kernel
theorem dJ2_getChars_ba4f3_88 : decode cJ2_getChars_ba4f3 88 = .ok (.invokestatic 111, 3) := by decide +kernel
theorem dJ2_getChars_ba4f3_91 : decode cJ2_getChars_ba4f3 91 = .ok (.iload_n 0, 1) := by decide +kernel
theorem dJ2_getChars_ba4f3_92 : decode cJ2_getChars_ba4f3 92 = .ok (.bipush (-9), 2) := by decide +kernel
theorem dJ2_getChars_ba4f3_94 : decode cJ2_getChars_ba4f3 94 = .ok (.if_icmp .ge 18, 3) := by decide +kernel
theorem dJ2_getChars_ba4f3_97 : decode cJ2_getChars_ba4f3 97 = .ok (.aload_n 2, 1) := by decide +kernel
theorem dJ2_getChars_ba4f3_98 : decode cJ2_getChars_ba4f3 98 = .ok (.iinc 5 (-1), 3) := by decide +kernel
theorem dJ2_getChars_ba4f3_101 : decode cJ2_getChars_ba4f3 101 = .ok (.iload 5, 2) := by decide +kernel
theorem dJ2_getChars_ba4f3_103 : decode cJ2_getChars_ba4f3 103 = .ok (.getstatic 407, 3) := by decide +kernel
theorem dJ2_getChars_ba4f3_106 : decode cJ2_getChars_ba4f3 106 = .ok (.iload_n 0, 1) := by decide +kernel
theorem dJ2_getChars_ba4f3_107 : decode cJ2_getChars_ba4f3 107 = .ok (.ineg, 1) := by decide +kernel
theorem dJ2_getChars_ba4f3_108 : decode cJ2_getChars_ba4f3 108 = .ok (.baload, 1) := by decide +kernel
theorem dJ2_getChars_ba4f3_109 : decode cJ2_getChars_ba4f3 109 = .ok (.invokestatic 111, 3) := by decide +kernel
theorem dJ2_getChars_ba4f3_112 : decode cJ2_getChars_ba4f3 112 = .ok (.iload 6, 2) := by decide +kernel
theorem dJ2_getChars_ba4f3_114 : decode cJ2_getChars_ba4f3 114 = .ok (.ifCond .eq 14, 3) := by decide +kernel
theorem dJ2_getChars_ba4f3_117 : decode cJ2_getChars_ba4f3 117 = .ok (.aload_n 2, 1) := by decide +kernel
theorem dJ2_getChars_ba4f3_118 : decode cJ2_getChars_ba4f3 118 = .ok (.iinc 5 (-1), 3) := by decide +kernel
theorem dJ2_getChars_ba4f3_121 : decode cJ2_getChars_ba4f3 121 = .ok (.iload 5, 2) := by decide +kernel
theorem dJ2_getChars_ba4f3_123 : decode cJ2_getChars_ba4f3 123 = .ok (.bipush 45, 2) := by decide +kernel
theorem dJ2_getChars_ba4f3_125 : decode cJ2_getChars_ba4f3 125 = .ok (.invokestatic 111, 3) := by decide +kernel
theorem dJ2_getChars_ba4f3_128 : decode cJ2_getChars_ba4f3 128 = .ok (.iload 5, 2) := by decide +kernel
theorem dJ2_getChars_ba4f3_130 : decode cJ2_getChars_ba4f3 130 = .ok (.ireturn, 1) := by decide +kernel
theorem dJ2_checkIndex_2214a_0 : decode cJ2_checkIndex_2214a 0 = .ok (.iload_n 0, 1) := by decide +kernel
theorem dJ2_checkIndex_2214a_1 : decode cJ2_checkIndex_2214a 1 = .ok (.aload_n 1, 1) := by decide +kernel
theorem dJ2_checkIndex_2214a_2 : decode cJ2_checkIndex_2214a 2 = .ok (.invokestatic 48, 3) := by decide +kernel
theorem dJ2_checkIndex_2214a_5 : decode cJ2_checkIndex_2214a 5 = .ok (.invokestatic 414, 3) := by decide +kernel
theorem dJ2_checkIndex_2214a_8 : decode cJ2_checkIndex_2214a 8 = .ok (.return_, 1) := by decide +kernel
theorem dJ2_checkBoundsBeginEnd_d044e_0 : decode cJ2_checkBoundsBeginEnd_d044e 0 = .ok (.iload_n 0, 1) := by decide +kernel
theorem dJ2_checkBoundsBeginEnd_d044e_1 : decode cJ2_checkBoundsBeginEnd_d044e 1 = .ok (.iload_n 1, 1) := by decide +kernel
theorem dJ2_checkBoundsBeginEnd_d044e_2 : decode cJ2_checkBoundsBeginEnd_d044e 2 = .ok (.aload_n 2, 1) := by decide +kernel
theorem dJ2_checkBoundsBeginEnd_d044e_3 : decode cJ2_checkBoundsBeginEnd_d044e 3 = .ok (.invokestatic 48, 3) := by decide +kernel
theorem dJ2_checkBoundsBeginEnd_d044e_6 : decode cJ2_checkBoundsBeginEnd_d044e 6 = .ok (.invokestatic 241, 3) := by decide +kernel
theorem dJ2_checkBoundsBeginEnd_d044e_9 : decode cJ2_checkBoundsBeginEnd_d044e 9 = .ok (.return_, 1) := by decide +kernel
theorem dJ2_checkBoundsOffCount_d044e_0 : decode cJ2_checkBoundsOffCount_d044e 0 = .ok (.iload_n 0, 1) := by decide +kernel
theorem dJ2_checkBoundsOffCount_d044e_1 : decode cJ2_checkBoundsOffCount_d044e 1 = .ok (.iload_n 1, 1) := by decide +kernel
theorem dJ2_checkBoundsOffCount_d044e_2 : decode cJ2_checkBoundsOffCount_d044e 2 = .ok (.aload_n 2, 1) := by decide +kernel
theorem dJ2_checkBoundsOffCount_d044e_3 : decode cJ2_checkBoundsOffCount_d044e 3 = .ok (.invokestatic 48, 3) := by decide +kernel
theorem dJ2_checkBoundsOffCount_d044e_6 : decode cJ2_checkBoundsOffCount_d044e 6 = .ok (.invokestatic 419, 3) := by decide +kernel
theorem dJ2_checkBoundsOffCount_d044e_9 : decode cJ2_checkBoundsOffCount_d044e 9 = .ok (.pop, 1) := by decide +kernel
theorem dJ2_checkBoundsOffCount_d044e_10 : decode cJ2_checkBoundsOffCount_d044e 10 = .ok (.return_, 1) := by decide +kernel
theorem dJxa1e45_init_da8c8_0 : decode cJxa1e45_init_da8c8 0 = .ok (.aload_n 0, 1) := by decide +kernel
theorem dJxa1e45_init_da8c8_1 : decode cJxa1e45_init_da8c8 1 = .ok (.invokespecial 1, 3) := by decide +kernel
theorem dJxa1e45_init_da8c8_4 : decode cJxa1e45_init_da8c8 4 = .ok (.return_, 1) := by decide +kernel
theorem dJxc12de_init_da8c8_0 : decode cJxc12de_init_da8c8 0 = .ok (.aload_n 0, 1) := by decide +kernel
theorem dJxc12de_init_da8c8_1 : decode cJxc12de_init_da8c8 1 = .ok (.invokespecial 1, 3) := by decide +kernel
theorem dJxc12de_init_da8c8_4 : decode cJxc12de_init_da8c8 4 = .ok (.aload_n 0, 1) := by decide +kernel
theorem dJxc12de_init_da8c8_5 : decode cJxc12de_init_da8c8 5 = .ok (.iconst 0, 1) := by decide +kernel
theorem dJxc12de_init_da8c8_6 : decode cJxc12de_init_da8c8 6 = .ok (.putfield 7, 3) := by decide +kernel
theorem dJxc12de_init_da8c8_9 : decode cJxc12de_init_da8c8 9 = .ok (.return_, 1) := by decide +kernel
theorem dJx4a65c_init_da8c8_0 : decode cJx4a65c_init_da8c8 0 = .ok (.aload_n 0, 1) := by decide +kernel
theorem dJx4a65c_init_da8c8_1 : decode cJx4a65c_init_da8c8 1 = .ok (.invokespecial 1, 3) := by decide +kernel
theorem dJx4a65c_init_da8c8_4 : decode cJx4a65c_init_da8c8 4 = .ok (.aload_n 0, 1) := by decide +kernel
theorem dJx4a65c_init_da8c8_5 : decode cJx4a65c_init_da8c8 5 = .ok (.getstatic 39, 3) := by decide +kernel
theorem dJx4a65c_init_da8c8_8 : decode cJx4a65c_init_da8c8 8 = .ok (.putfield 9, 3) := by decide +kernel
theorem dJx4a65c_init_da8c8_11 : decode cJx4a65c_init_da8c8 11 = .ok (.return_, 1) := by decide +kernel
theorem dJx4a65c_grow_92f84_0 : decode cJx4a65c_grow_92f84 0 = .ok (.aload_n 0, 1) := by decide +kernel
theorem dJx4a65c_grow_92f84_1 : decode cJx4a65c_grow_92f84 1 = .ok (.getfield 9, 3) := by decide +kernel
theorem dJx4a65c_grow_92f84_4 : decode cJx4a65c_grow_92f84 4 = .ok (.arraylength, 1) := by decide +kernel
theorem dJx4a65c_grow_92f84_5 : decode cJx4a65c_grow_92f84 5 = .ok (.istore_n 2, 1) := by decide +kernel
theorem dJx4a65c_grow_92f84_6 : decode cJx4a65c_grow_92f84 6 = .ok (.iload_n 2, 1) := by decide +kernel
theorem dJx4a65c_grow_92f84_7 : decode cJx4a65c_grow_92f84 7 = .ok (.ifCond .gt 13, 3) := by decide +kernel
theorem dJx4a65c_grow_92f84_10 : decode cJx4a65c_grow_92f84 10 = .ok (.aload_n 0, 1) := by decide +kernel
theorem dJx4a65c_grow_92f84_11 : decode cJx4a65c_grow_92f84 11 = .ok (.getfield 9, 3) := by decide +kernel
theorem dJx4a65c_grow_92f84_14 : decode cJx4a65c_grow_92f84 14 = .ok (.getstatic 39, 3) := by decide +kernel
theorem dJx4a65c_grow_92f84_17 : decode cJx4a65c_grow_92f84 17 = .ok (.if_acmp .eq 28, 3) := by decide +kernel
theorem dJx4a65c_grow_92f84_20 : decode cJx4a65c_grow_92f84 20 = .ok (.iload_n 2, 1) := by decide +kernel
theorem dJx4a65c_grow_92f84_21 : decode cJx4a65c_grow_92f84 21 = .ok (.iload_n 1, 1) := by decide +kernel
theorem dJx4a65c_grow_92f84_22 : decode cJx4a65c_grow_92f84 22 = .ok (.iload_n 2, 1) := by decide +kernel
theorem dJx4a65c_grow_92f84_23 : decode cJx4a65c_grow_92f84 23 = .ok (.isub, 1) := by decide +kernel
theorem dJx4a65c_grow_92f84_24 : decode cJx4a65c_grow_92f84 24 = .ok (.iload_n 2, 1) := by decide +kernel
theorem dJx4a65c_grow_92f84_25 : decode cJx4a65c_grow_92f84 25 = .ok (.iconst 1, 1) := by decide +kernel
theorem dJx4a65c_grow_92f84_26 : decode cJx4a65c_grow_92f84 26 = .ok (.ishr, 1) := by decide +kernel
theorem dJx4a65c_grow_92f84_27 : decode cJx4a65c_grow_92f84 27 = .ok (.invokestatic 73, 3) := by decide +kernel
theorem dJx4a65c_grow_92f84_30 : decode cJx4a65c_grow_92f84 30 = .ok (.istore_n 3, 1) := by decide +kernel
theorem dJx4a65c_grow_92f84_31 : decode cJx4a65c_grow_92f84 31 = .ok (.aload_n 0, 1) := by decide +kernel
theorem dJx4a65c_grow_92f84_32 : decode cJx4a65c_grow_92f84 32 = .ok (.aload_n 0, 1) := by decide +kernel
theorem dJx4a65c_grow_92f84_33 : decode cJx4a65c_grow_92f84 33 = .ok (.getfield 9, 3) := by decide +kernel
theorem dJx4a65c_grow_92f84_36 : decode cJx4a65c_grow_92f84 36 = .ok (.iload_n 3, 1) := by decide +kernel
theorem dJx4a65c_grow_92f84_37 : decode cJx4a65c_grow_92f84 37 = .ok (.invokestatic 66, 3) := by decide +kernel
theorem dJx4a65c_grow_92f84_40 : decode cJx4a65c_grow_92f84 40 = .ok (.dup_x1, 1) := by decide +kernel
theorem dJx4a65c_grow_92f84_41 : decode cJx4a65c_grow_92f84 41 = .ok (.putfield 9, 3) := by decide +kernel
theorem dJx4a65c_grow_92f84_44 : decode cJx4a65c_grow_92f84 44 = .ok (.areturn, 1) := by decide +kernel
theorem dJx4a65c_grow_92f84_45 : decode cJx4a65c_grow_92f84 45 = .ok (.aload_n 0, 1) := by decide +kernel
theorem dJx4a65c_grow_92f84_46 : decode cJx4a65c_grow_92f84 46 = .ok (.bipush 10, 2) := by decide +kernel
theorem dJx4a65c_grow_92f84_48 : decode cJx4a65c_grow_92f84 48 = .ok (.iload_n 1, 1) := by decide +kernel
theorem dJx4a65c_grow_92f84_49 : decode cJx4a65c_grow_92f84 49 = .ok (.invokestatic 79, 3) := by decide +kernel
theorem dJx4a65c_grow_92f84_52 : decode cJx4a65c_grow_92f84 52 = .ok (.anewarray 7, 3) := by decide +kernel
theorem dJx4a65c_grow_92f84_55 : decode cJx4a65c_grow_92f84 55 = .ok (.dup_x1, 1) := by decide +kernel
theorem dJx4a65c_grow_92f84_56 : decode cJx4a65c_grow_92f84 56 = .ok (.putfield 9, 3) := by decide +kernel
theorem dJx4a65c_grow_92f84_59 : decode cJx4a65c_grow_92f84 59 = .ok (.areturn, 1) := by decide +kernel
theorem dJx4a65c_grow_d5877_0 : decode cJx4a65c_grow_d5877 0 = .ok (.aload_n 0, 1) := by decide +kernel
theorem dJx4a65c_grow_d5877_1 : decode cJx4a65c_grow_d5877 1 = .ok (.aload_n 0, 1) := by decide +kernel
theorem dJx4a65c_grow_d5877_2 : decode cJx4a65c_grow_d5877 2 = .ok (.getfield 48, 3) := by decide +kernel
theorem dJx4a65c_grow_d5877_5 : decode cJx4a65c_grow_d5877 5 = .ok (.iconst 1, 1) := by decide +kernel
theorem dJx4a65c_grow_d5877_6 : decode cJx4a65c_grow_d5877 6 = .ok (.iadd, 1) := by decide +kernel
theorem dJx4a65c_grow_d5877_7 : decode cJx4a65c_grow_d5877 7 = .ok (.invokevirtual 69, 3) := by decide +kernel
theorem dJx4a65c_grow_d5877_10 : decode cJx4a65c_grow_d5877 10 = .ok (.areturn, 1) := by decide +kernel
theorem dJx4a65c_size_8abf5_0 : decode cJx4a65c_size_8abf5 0 = .ok (.aload_n 0, 1) := by decide +kernel
theorem dJx4a65c_size_8abf5_1 : decode cJx4a65c_size_8abf5 1 = .ok (.getfield 48, 3) := by decide +kernel
theorem dJx4a65c_size_8abf5_4 : decode cJx4a65c_size_8abf5 4 = .ok (.ireturn, 1) := by decide +kernel
theorem dJx4a65c_isEmpty_aae02_0 : decode cJx4a65c_isEmpty_aae02 0 = .ok (.aload_n 0, 1) := by decide +kernel
theorem dJx4a65c_isEmpty_aae02_1 : decode cJx4a65c_isEmpty_aae02 1 = .ok (.getfield 48, 3) := by decide +kernel
theorem dJx4a65c_isEmpty_aae02_4 : decode cJx4a65c_isEmpty_aae02 4 = .ok (.ifCond .ne 7, 3) := by decide +kernel
theorem dJx4a65c_isEmpty_aae02_7 : decode cJx4a65c_isEmpty_aae02 7 = .ok (.iconst 1, 1) := by decide +kernel
theorem dJx4a65c_isEmpty_aae02_8 : decode cJx4a65c_isEmpty_aae02 8 = .ok (.goto 4, 3) := by decide +kernel
theorem dJx4a65c_isEmpty_aae02_11 : decode cJx4a65c_isEmpty_aae02 11 = .ok (.iconst 0, 1) := by decide +kernel
theorem dJx4a65c_isEmpty_aae02_12 : decode cJx4a65c_isEmpty_aae02 12 = .ok (.ireturn, 1) := by decide +kernel
theorem dJx4a65c_elementData_915e3_0 : decode cJx4a65c_elementData_915e3 0 = .ok (.aload_n 0, 1) := by decide +kernel
theorem dJx4a65c_elementData_915e3_1 : decode cJx4a65c_elementData_915e3 1 = .ok (.getfield 9, 3) := by decide +kernel
theorem dJx4a65c_elementData_915e3_4 : decode cJx4a65c_elementData_915e3 4 = .ok (.iload_n 1, 1) := by decide +kernel
theorem dJx4a65c_elementData_915e3_5 : decode cJx4a65c_elementData_915e3 5 = .ok (.aaload, 1) := by decide +kernel
theorem dJx4a65c_elementData_915e3_6 : decode cJx4a65c_elementData_915e3 6 = .ok (.areturn, 1) := by decide +kernel
theorem dJx4a65c_get_915e3_0 : decode cJx4a65c_get_915e3 0 = .ok (.iload_n 1, 1) := by decide +kernel
theorem dJx4a65c_get_915e3_1 : decode cJx4a65c_get_915e3 1 = .ok (.aload_n 0, 1) := by decide +kernel
theorem dJx4a65c_get_915e3_2 : decode cJx4a65c_get_915e3 2 = .ok (.getfield 48, 3) := by decide +kernel
theorem dJx4a65c_get_915e3_5 : decode cJx4a65c_get_915e3 5 = .ok (.invokestatic 118, 3) := by decide +kernel
theorem dJx4a65c_get_915e3_8 : decode cJx4a65c_get_915e3 8 = .ok (.pop, 1) := by decide +kernel
theorem dJx4a65c_get_915e3_9 : decode cJx4a65c_get_915e3 9 = .ok (.aload_n 0, 1) := by decide +kernel
theorem dJx4a65c_get_915e3_10 : decode cJx4a65c_get_915e3 10 = .ok (.iload_n 1, 1) := by decide +kernel
theorem dJx4a65c_get_915e3_11 : decode cJx4a65c_get_915e3 11 = .ok (.invokevirtual 123, 3) := by decide +kernel
theorem dJx4a65c_get_915e3_14 : decode cJx4a65c_get_915e3 14 = .ok (.areturn, 1) := by decide +kernel
theorem dJx4a65c_add_72be8_0 : decode cJx4a65c_add_72be8 0 = .ok (.iload_n 3, 1) := by decide +kernel
theorem dJx4a65c_add_72be8_1 : decode cJx4a65c_add_72be8 1 = .ok (.aload_n 2, 1) := by decide +kernel
theorem dJx4a65c_add_72be8_2 : decode cJx4a65c_add_72be8 2 = .ok (.arraylength, 1) := by decide +kernel
theorem dJx4a65c_add_72be8_3 : decode cJx4a65c_add_72be8 3 = .ok (.if_icmp .ne 8, 3) := by decide +kernel
theorem dJx4a65c_add_72be8_6 : decode cJx4a65c_add_72be8 6 = .ok (.aload_n 0, 1) := by decide +kernel
theorem dJx4a65c_add_72be8_7 : decode cJx4a65c_add_72be8 7 = .ok (.invokevirtual 129, 3) := by decide +kernel
theorem dJx4a65c_add_72be8_10 : decode cJx4a65c_add_72be8 10 = .ok (.astore_n 2, 1) := by decide +kernel
theorem dJx4a65c_add_72be8_11 : decode cJx4a65c_add_72be8 11 = .ok (.aload_n 2, 1) := by decide +kernel
theorem dJx4a65c_add_72be8_12 : decode cJx4a65c_add_72be8 12 = .ok (.iload_n 3, 1) := by decide +kernel
theorem dJx4a65c_add_72be8_13 : decode cJx4a65c_add_72be8 13 = .ok (.aload_n 1, 1) := by decide +kernel
theorem dJx4a65c_add_72be8_14 : decode cJx4a65c_add_72be8 14 = .ok (.aastore, 1) := by decide +kernel
theorem dJx4a65c_add_72be8_15 : decode cJx4a65c_add_72be8 15 = .ok (.aload_n 0, 1) := by decide +kernel
theorem dJx4a65c_add_72be8_16 : decode cJx4a65c_add_72be8 16 = .ok (.iload_n 3, 1) := by decide +kernel
theorem dJx4a65c_add_72be8_17 : decode cJx4a65c_add_72be8 17 = .ok (.iconst 1, 1) := by decide +kernel
theorem dJx4a65c_add_72be8_18 : decode cJx4a65c_add_72be8 18 = .ok (.iadd, 1) := by decide +kernel
theorem dJx4a65c_add_72be8_19 : decode cJx4a65c_add_72be8 19 = .ok (.putfield 48, 3) := by decide +kernel
theorem dJx4a65c_add_72be8_22 : decode cJx4a65c_add_72be8 22 = .ok (.return_, 1) := by decide +kernel
theorem dJx4a65c_add_9ea2d_0 : decode cJx4a65c_add_9ea2d 0 = .ok (.aload_n 0, 1) := by decide +kernel
theorem dJx4a65c_add_9ea2d_1 : decode cJx4a65c_add_9ea2d 1 = .ok (.dup, 1) := by decide +kernel
theorem dJx4a65c_add_9ea2d_2 : decode cJx4a65c_add_9ea2d 2 = .ok (.getfield 63, 3) := by decide +kernel
theorem dJx4a65c_add_9ea2d_5 : decode cJx4a65c_add_9ea2d 5 = .ok (.iconst 1, 1) := by decide +kernel
theorem dJx4a65c_add_9ea2d_6 : decode cJx4a65c_add_9ea2d 6 = .ok (.iadd, 1) := by decide +kernel
theorem dJx4a65c_add_9ea2d_7 : decode cJx4a65c_add_9ea2d 7 = .ok (.putfield 63, 3) := by decide +kernel
theorem dJx4a65c_add_9ea2d_10 : decode cJx4a65c_add_9ea2d 10 = .ok (.aload_n 0, 1) := by decide +kernel
theorem dJx4a65c_add_9ea2d_11 : decode cJx4a65c_add_9ea2d 11 = .ok (.aload_n 1, 1) := by decide +kernel
theorem dJx4a65c_add_9ea2d_12 : decode cJx4a65c_add_9ea2d 12 = .ok (.aload_n 0, 1) := by decide +kernel
theorem dJx4a65c_add_9ea2d_13 : decode cJx4a65c_add_9ea2d 13 = .ok (.getfield 9, 3) := by decide +kernel
theorem dJx4a65c_add_9ea2d_16 : decode cJx4a65c_add_9ea2d 16 = .ok (.aload_n 0, 1) := by decide +kernel
theorem dJx4a65c_add_9ea2d_17 : decode cJx4a65c_add_9ea2d 17 = .ok (.getfield 48, 3) := by decide +kernel
theorem dJx4a65c_add_9ea2d_20 : decode cJx4a65c_add_9ea2d 20 = .ok (.invokevirtual 131, 3) := by decide +kernel
theorem dJx4a65c_add_9ea2d_23 : decode cJx4a65c_add_9ea2d 23 = .ok (.iconst 1, 1) := by decide +kernel
theorem dJx4a65c_add_9ea2d_24 : decode cJx4a65c_add_9ea2d 24 = .ok (.ireturn, 1) := by decide +kernel
theorem dJx4a65c_add_7a177_0 : decode cJx4a65c_add_7a177 0 = .ok (.aload_n 0, 1) := by decide +kernel
theorem dJx4a65c_add_7a177_1 : decode cJx4a65c_add_7a177 1 = .ok (.iload_n 1, 1) := by decide +kernel
theorem dJx4a65c_add_7a177_2 : decode cJx4a65c_add_7a177 2 = .ok (.invokevirtual 135, 3) := by decide +kernel
theorem dJx4a65c_add_7a177_5 : decode cJx4a65c_add_7a177 5 = .ok (.aload_n 0, 1) := by decide +kernel
theorem dJx4a65c_add_7a177_6 : decode cJx4a65c_add_7a177 6 = .ok (.dup, 1) := by decide +kernel
theorem dJx4a65c_add_7a177_7 : decode cJx4a65c_add_7a177 7 = .ok (.getfield 63, 3) := by decide +kernel
theorem dJx4a65c_add_7a177_10 : decode cJx4a65c_add_7a177 10 = .ok (.iconst 1, 1) := by decide +kernel
theorem dJx4a65c_add_7a177_11 : decode cJx4a65c_add_7a177 11 = .ok (.iadd, 1) := by decide +kernel
theorem dJx4a65c_add_7a177_12 : decode cJx4a65c_add_7a177 12 = .ok (.putfield 63, 3) := by decide +kernel
theorem dJx4a65c_add_7a177_15 : decode cJx4a65c_add_7a177 15 = .ok (.aload_n 0, 1) := by decide +kernel
theorem dJx4a65c_add_7a177_16 : decode cJx4a65c_add_7a177 16 = .ok (.getfield 48, 3) := by decide +kernel
theorem dJx4a65c_add_7a177_19 : decode cJx4a65c_add_7a177 19 = .ok (.dup, 1) := by decide +kernel
theorem dJx4a65c_add_7a177_20 : decode cJx4a65c_add_7a177 20 = .ok (.istore_n 3, 1) := by decide +kernel
theorem dJx4a65c_add_7a177_21 : decode cJx4a65c_add_7a177 21 = .ok (.aload_n 0, 1) := by decide +kernel
theorem dJx4a65c_add_7a177_22 : decode cJx4a65c_add_7a177 22 = .ok (.getfield 9, 3) := by decide +kernel
theorem dJx4a65c_add_7a177_25 : decode cJx4a65c_add_7a177 25 = .ok (.dup, 1) := by decide +kernel
theorem dJx4a65c_add_7a177_26 : decode cJx4a65c_add_7a177 26 = .ok (.astore 4, 2) := by decide +kernel
theorem dJx4a65c_add_7a177_28 : decode cJx4a65c_add_7a177 28 = .ok (.arraylength, 1) := by decide +kernel
theorem dJx4a65c_add_7a177_29 : decode cJx4a65c_add_7a177 29 = .ok (.if_icmp .ne 9, 3) := by decide +kernel
theorem dJx4a65c_add_7a177_32 : decode cJx4a65c_add_7a177 32 = .ok (.aload_n 0, 1) := by decide +kernel
theorem dJx4a65c_add_7a177_33 : decode cJx4a65c_add_7a177 33 = .ok (.invokevirtual 129, 3) := by decide +kernel
theorem dJx4a65c_add_7a177_36 : decode cJx4a65c_add_7a177 36 = .ok (.astore 4, 2) := by decide +kernel
theorem dJx4a65c_add_7a177_38 : decode cJx4a65c_add_7a177 38 = .ok (.aload 4, 2) := by decide +kernel
theorem dJx4a65c_add_7a177_40 : decode cJx4a65c_add_7a177 40 = .ok (.iload_n 1, 1) := by decide +kernel
theorem dJx4a65c_add_7a177_41 : decode cJx4a65c_add_7a177 41 = .ok (.aload 4, 2) := by decide +kernel
theorem dJx4a65c_add_7a177_43 : decode cJx4a65c_add_7a177 43 = .ok (.iload_n 1, 1) := by decide +kernel
theorem dJx4a65c_add_7a177_44 : decode cJx4a65c_add_7a177 44 = .ok (.iconst 1, 1) := by decide +kernel
theorem dJx4a65c_add_7a177_45 : decode cJx4a65c_add_7a177 45 = .ok (.iadd, 1) := by decide +kernel
theorem dJx4a65c_add_7a177_46 : decode cJx4a65c_add_7a177 46 = .ok (.iload_n 3, 1) := by decide +kernel
theorem dJx4a65c_add_7a177_47 : decode cJx4a65c_add_7a177 47 = .ok (.iload_n 1, 1) := by decide +kernel
theorem dJx4a65c_add_7a177_48 : decode cJx4a65c_add_7a177 48 = .ok (.isub, 1) := by decide +kernel
theorem dJx4a65c_add_7a177_49 : decode cJx4a65c_add_7a177 49 = .ok (.invokestatic 112, 3) := by decide +kernel
theorem dJx4a65c_add_7a177_52 : decode cJx4a65c_add_7a177 52 = .ok (.aload 4, 2) := by decide +kernel
theorem dJx4a65c_add_7a177_54 : decode cJx4a65c_add_7a177 54 = .ok (.iload_n 1, 1) := by decide +kernel
theorem dJx4a65c_add_7a177_55 : decode cJx4a65c_add_7a177 55 = .ok (.aload_n 2, 1) := by decide +kernel
theorem dJx4a65c_add_7a177_56 : decode cJx4a65c_add_7a177 56 = .ok (.aastore, 1) := by decide +kernel
theorem dJx4a65c_add_7a177_57 : decode cJx4a65c_add_7a177 57 = .ok (.aload_n 0, 1) := by decide +kernel
theorem dJx4a65c_add_7a177_58 : decode cJx4a65c_add_7a177 58 = .ok (.iload_n 3, 1) := by decide +kernel
theorem dJx4a65c_add_7a177_59 : decode cJx4a65c_add_7a177 59 = .ok (.iconst 1, 1) := by decide +kernel
theorem dJx4a65c_add_7a177_60 : decode cJx4a65c_add_7a177 60 = .ok (.iadd, 1) := by decide +kernel
theorem dJx4a65c_add_7a177_61 : decode cJx4a65c_add_7a177 61 = .ok (.putfield 48, 3) := by decide +kernel
theorem dJx4a65c_add_7a177_64 : decode cJx4a65c_add_7a177 64 = .ok (.return_, 1) := by decide +kernel
theorem dJx4a65c_remove_915e3_0 : decode cJx4a65c_remove_915e3 0 = .ok (.iload_n 1, 1) := by decide +kernel
theorem dJx4a65c_remove_915e3_1 : decode cJx4a65c_remove_915e3 1 = .ok (.aload_n 0, 1) := by decide +kernel
theorem dJx4a65c_remove_915e3_2 : decode cJx4a65c_remove_915e3 2 = .ok (.getfield 48, 3) := by decide +kernel
theorem dJx4a65c_remove_915e3_5 : decode cJx4a65c_remove_915e3 5 = .ok (.invokestatic 118, 3) := by decide +kernel
theorem dJx4a65c_remove_915e3_8 : decode cJx4a65c_remove_915e3 8 = .ok (.pop, 1) := by decide +kernel
theorem dJx4a65c_remove_915e3_9 : decode cJx4a65c_remove_915e3 9 = .ok (.aload_n 0, 1) := by decide +kernel
theorem dJx4a65c_remove_915e3_10 : decode cJx4a65c_remove_915e3 10 = .ok (.getfield 9, 3) := by decide +kernel
theorem dJx4a65c_remove_915e3_13 : decode cJx4a65c_remove_915e3 13 = .ok (.astore_n 2, 1) := by decide +kernel
theorem dJx4a65c_remove_915e3_14 : decode cJx4a65c_remove_915e3 14 = .ok (.aload_n 2, 1) := by decide +kernel
theorem dJx4a65c_remove_915e3_15 : decode cJx4a65c_remove_915e3 15 = .ok (.iload_n 1, 1) := by decide +kernel
theorem dJx4a65c_remove_915e3_16 : decode cJx4a65c_remove_915e3 16 = .ok (.aaload, 1) := by decide +kernel
theorem dJx4a65c_remove_915e3_17 : decode cJx4a65c_remove_915e3 17 = .ok (.astore_n 3, 1) := by decide +kernel
theorem dJx4a65c_remove_915e3_18 : decode cJx4a65c_remove_915e3 18 = .ok (.aload_n 0, 1) := by decide +kernel
theorem dJx4a65c_remove_915e3_19 : decode cJx4a65c_remove_915e3 19 = .ok (.aload_n 2, 1) := by decide +kernel
theorem dJx4a65c_remove_915e3_20 : decode cJx4a65c_remove_915e3 20 = .ok (.iload_n 1, 1) := by decide +kernel
theorem dJx4a65c_remove_915e3_21 : decode cJx4a65c_remove_915e3 21 = .ok (.invokevirtual 144, 3) := by decide +kernel
theorem dJx4a65c_remove_915e3_24 : decode cJx4a65c_remove_915e3 24 = .ok (.aload_n 3, 1) := by decide +kernel
theorem dJx4a65c_remove_915e3_25 : decode cJx4a65c_remove_915e3 25 = .ok (.areturn, 1) := by decide +kernel
theorem dJx4a65c_fastRemove_b59b0_0 : decode cJx4a65c_fastRemove_b59b0 0 = .ok (.aload_n 0, 1) := by decide +kernel
theorem dJx4a65c_fastRemove_b59b0_1 : decode cJx4a65c_fastRemove_b59b0 1 = .ok (.dup, 1) := by decide +kernel
theorem dJx4a65c_fastRemove_b59b0_2 : decode cJx4a65c_fastRemove_b59b0 2 = .ok (.getfield 63, 3) := by decide +kernel
theorem dJx4a65c_fastRemove_b59b0_5 : decode cJx4a65c_fastRemove_b59b0 5 = .ok (.iconst 1, 1) := by decide +kernel
theorem dJx4a65c_fastRemove_b59b0_6 : decode cJx4a65c_fastRemove_b59b0 6 = .ok (.iadd, 1) := by decide +kernel
theorem dJx4a65c_fastRemove_b59b0_7 : decode cJx4a65c_fastRemove_b59b0 7 = .ok (.putfield 63, 3) := by decide +kernel
theorem dJx4a65c_fastRemove_b59b0_10 : decode cJx4a65c_fastRemove_b59b0 10 = .ok (.aload_n 0, 1) := by decide +kernel
theorem dJx4a65c_fastRemove_b59b0_11 : decode cJx4a65c_fastRemove_b59b0 11 = .ok (.getfield 48, 3) := by decide +kernel
theorem dJx4a65c_fastRemove_b59b0_14 : decode cJx4a65c_fastRemove_b59b0 14 = .ok (.iconst 1, 1) := by decide +kernel
theorem dJx4a65c_fastRemove_b59b0_15 : decode cJx4a65c_fastRemove_b59b0 15 = .ok (.isub, 1) := by decide +kernel
theorem dJx4a65c_fastRemove_b59b0_16 : decode cJx4a65c_fastRemove_b59b0 16 = .ok (.dup, 1) := by decide +kernel
theorem dJx4a65c_fastRemove_b59b0_17 : decode cJx4a65c_fastRemove_b59b0 17 = .ok (.istore_n 3, 1) := by decide +kernel
theorem dJx4a65c_fastRemove_b59b0_18 : decode cJx4a65c_fastRemove_b59b0 18 = .ok (.iload_n 2, 1) := by decide +kernel
theorem dJx4a65c_fastRemove_b59b0_19 : decode cJx4a65c_fastRemove_b59b0 19 = .ok (.if_icmp .le 15, 3) := by decide +kernel
theorem dJx4a65c_fastRemove_b59b0_22 : decode cJx4a65c_fastRemove_b59b0 22 = .ok (.aload_n 1, 1) := by decide +kernel
theorem dJx4a65c_fastRemove_b59b0_23 : decode cJx4a65c_fastRemove_b59b0 23 = .ok (.iload_n 2, 1) := by decide +kernel
theorem dJx4a65c_fastRemove_b59b0_24 : decode cJx4a65c_fastRemove_b59b0 24 = .ok (.iconst 1, 1) := by decide +kernel
theorem dJx4a65c_fastRemove_b59b0_25 : decode cJx4a65c_fastRemove_b59b0 25 = .ok (.iadd, 1) := by decide +kernel
theorem dJx4a65c_fastRemove_b59b0_26 : decode cJx4a65c_fastRemove_b59b0 26 = .ok (.aload_n 1, 1) := by decide +kernel
theorem dJx4a65c_fastRemove_b59b0_27 : decode cJx4a65c_fastRemove_b59b0 27 = .ok (.iload_n 2, 1) := by decide +kernel
theorem dJx4a65c_fastRemove_b59b0_28 : decode cJx4a65c_fastRemove_b59b0 28 = .ok (.iload_n 3, 1) := by decide +kernel
theorem dJx4a65c_fastRemove_b59b0_29 : decode cJx4a65c_fastRemove_b59b0 29 = .ok (.iload_n 2, 1) := by decide +kernel
theorem dJx4a65c_fastRemove_b59b0_30 : decode cJx4a65c_fastRemove_b59b0 30 = .ok (.isub, 1) := by decide +kernel
theorem dJx4a65c_fastRemove_b59b0_31 : decode cJx4a65c_fastRemove_b59b0 31 = .ok (.invokestatic 112, 3) := by decide +kernel
theorem dJx4a65c_fastRemove_b59b0_34 : decode cJx4a65c_fastRemove_b59b0 34 = .ok (.aload_n 1, 1) := by decide +kernel
theorem dJx4a65c_fastRemove_b59b0_35 : decode cJx4a65c_fastRemove_b59b0 35 = .ok (.aload_n 0, 1) := by decide +kernel
theorem dJx4a65c_fastRemove_b59b0_36 : decode cJx4a65c_fastRemove_b59b0 36 = .ok (.iload_n 3, 1) := by decide +kernel
theorem dJx4a65c_fastRemove_b59b0_37 : decode cJx4a65c_fastRemove_b59b0 37 = .ok (.dup_x1, 1) := by decide +kernel
theorem dJx4a65c_fastRemove_b59b0_38 : decode cJx4a65c_fastRemove_b59b0 38 = .ok (.putfield 48, 3) := by decide +kernel
theorem dJx4a65c_fastRemove_b59b0_41 : decode cJx4a65c_fastRemove_b59b0 41 = .ok (.aconst_null, 1) := by decide +kernel
theorem dJx4a65c_fastRemove_b59b0_42 : decode cJx4a65c_fastRemove_b59b0 42 = .ok (.aastore, 1) := by decide +kernel
theorem dJx4a65c_fastRemove_b59b0_43 : decode cJx4a65c_fastRemove_b59b0 43 = .ok (.return_, 1) := by decide +kernel
theorem dJx4a65c_clear_da8c8_0 : decode cJx4a65c_clear_da8c8 0 = .ok (.aload_n 0, 1) := by decide +kernel
theorem dJx4a65c_clear_da8c8_1 : decode cJx4a65c_clear_da8c8 1 = .ok (.dup, 1) := by decide +kernel
theorem dJx4a65c_clear_da8c8_2 : decode cJx4a65c_clear_da8c8 2 = .ok (.getfield 63, 3) := by decide +kernel
theorem dJx4a65c_clear_da8c8_5 : decode cJx4a65c_clear_da8c8 5 = .ok (.iconst 1, 1) := by decide +kernel
theorem dJx4a65c_clear_da8c8_6 : decode cJx4a65c_clear_da8c8 6 = .ok (.iadd, 1) := by decide +kernel
theorem dJx4a65c_clear_da8c8_7 : decode cJx4a65c_clear_da8c8 7 = .ok (.putfield 63, 3) := by decide +kernel
theorem dJx4a65c_clear_da8c8_10 : decode cJx4a65c_clear_da8c8 10 = .ok (.aload_n 0, 1) := by decide +kernel
theorem dJx4a65c_clear_da8c8_11 : decode cJx4a65c_clear_da8c8 11 = .ok (.getfield 9, 3) := by decide +kernel
theorem dJx4a65c_clear_da8c8_14 : decode cJx4a65c_clear_da8c8 14 = .ok (.astore_n 1, 1) := by decide +kernel
theorem dJx4a65c_clear_da8c8_15 : decode cJx4a65c_clear_da8c8 15 = .ok (.aload_n 0, 1) := by decide +kernel
theorem dJx4a65c_clear_da8c8_16 : decode cJx4a65c_clear_da8c8 16 = .ok (.getfield 48, 3) := by decide +kernel
theorem dJx4a65c_clear_da8c8_19 : decode cJx4a65c_clear_da8c8 19 = .ok (.istore_n 2, 1) := by decide +kernel
theorem dJx4a65c_clear_da8c8_20 : decode cJx4a65c_clear_da8c8 20 = .ok (.aload_n 0, 1) := by decide +kernel
theorem dJx4a65c_clear_da8c8_21 : decode cJx4a65c_clear_da8c8 21 = .ok (.iconst 0, 1) := by decide +kernel
theorem dJx4a65c_clear_da8c8_22 : decode cJx4a65c_clear_da8c8 22 = .ok (.dup_x1, 1) := by decide +kernel
theorem dJx4a65c_clear_da8c8_23 : decode cJx4a65c_clear_da8c8 23 = .ok (.putfield 48, 3) := by decide +kernel
theorem dJx4a65c_clear_da8c8_26 : decode cJx4a65c_clear_da8c8 26 = .ok (.istore_n 3, 1) := by decide +kernel
theorem dJx4a65c_clear_da8c8_27 : decode cJx4a65c_clear_da8c8 27 = .ok (.iload_n 3, 1) := by decide +kernel
theorem dJx4a65c_clear_da8c8_28 : decode cJx4a65c_clear_da8c8 28 = .ok (.iload_n 2, 1) := by decide +kernel
theorem dJx4a65c_clear_da8c8_29 : decode cJx4a65c_clear_da8c8 29 = .ok (.if_icmp .ge 13, 3) := by decide +kernel
theorem dJx4a65c_clear_da8c8_32 : decode cJx4a65c_clear_da8c8 32 = .ok (.aload_n 1, 1) := by decide +kernel
theorem dJx4a65c_clear_da8c8_33 : decode cJx4a65c_clear_da8c8 33 = .ok (.iload_n 3, 1) := by decide +kernel
theorem dJx4a65c_clear_da8c8_34 : decode cJx4a65c_clear_da8c8 34 = .ok (.aconst_null, 1) := by decide +kernel
theorem dJx4a65c_clear_da8c8_35 : decode cJx4a65c_clear_da8c8 35 = .ok (.aastore, 1) := by decide +kernel
theorem dJx4a65c_clear_da8c8_36 : decode cJx4a65c_clear_da8c8 36 = .ok (.iinc 3 1, 3) := by decide +kernel
theorem dJx4a65c_clear_da8c8_39 : decode cJx4a65c_clear_da8c8 39 = .ok (.goto (-12), 3) := by decide +kernel
theorem dJx4a65c_clear_da8c8_42 : decode cJx4a65c_clear_da8c8 42 = .ok (.return_, 1) := by decide +kernel
theorem dJx4a65c_rangeCheckForAdd_d00df_0 : decode cJx4a65c_rangeCheckForAdd_d00df 0 = .ok (.iload_n 1, 1) := by decide +kernel
theorem dJx4a65c_rangeCheckForAdd_d00df_1 : decode cJx4a65c_rangeCheckForAdd_d00df 1 = .ok (.aload_n 0, 1) := by decide +kernel
theorem dJx4a65c_rangeCheckForAdd_d00df_2 : decode cJx4a65c_rangeCheckForAdd_d00df 2 = .ok (.getfield 48, 3) := by decide +kernel
theorem dJx4a65c_rangeCheckForAdd_d00df_5 : decode cJx4a65c_rangeCheckForAdd_d00df 5 = .ok (.if_icmp .gt 7, 3) := by decide +kernel
theorem dJx4a65c_rangeCheckForAdd_d00df_8 : decode cJx4a65c_rangeCheckForAdd_d00df 8 = .ok (.iload_n 1, 1) := by decide +kernel
theorem dJx4a65c_rangeCheckForAdd_d00df_9 : decode cJx4a65c_rangeCheckForAdd_d00df 9 = .ok (.ifCond .ge 16, 3) := by decide +kernel
theorem dJx4a65c_rangeCheckForAdd_d00df_12 : decode cJx4a65c_rangeCheckForAdd_d00df 12 = .ok (.new 187, 3) := by decide +kernel
theorem dJx4a65c_rangeCheckForAdd_d00df_15 : decode cJx4a65c_rangeCheckForAdd_d00df 15 = .ok (.dup, 1) := by decide +kernel
theorem dJx4a65c_rangeCheckForAdd_d00df_16 : decode cJx4a65c_rangeCheckForAdd_d00df 16 = .ok (.aload_n 0, 1) := by decide +kernel
theorem dJx4a65c_rangeCheckForAdd_d00df_17 : decode cJx4a65c_rangeCheckForAdd_d00df 17 = .ok (.iload_n 1, 1) := by decide +kernel
theorem dJx4a65c_rangeCheckForAdd_d00df_18 : decode cJx4a65c_rangeCheckForAdd_d00df 18 = .ok (.invokevirtual 198, 3) := by decide +kernel
theorem dJx4a65c_rangeCheckForAdd_d00df_21 : decode cJx4a65c_rangeCheckForAdd_d00df 21 = .ok (.invokespecial 193, 3) := by decide +kernel
theorem dJx4a65c_rangeCheckForAdd_d00df_24 : decode cJx4a65c_rangeCheckForAdd_d00df 24 = .ok (.athrow, 1) := by decide +kernel
theorem dJx4a65c_rangeCheckForAdd_d00df_25 : decode cJx4a65c_rangeCheckForAdd_d00df 25 = .ok (.return_, 1) := by decide +kernel
theorem dJx4a65c_outOfBoundsMsg_b52d3_0 : decode cJx4a65c_outOfBoundsMsg_b52d3 0 = .ok (.new 20, 3) := by decide +kernel
theorem dJx4a65c_outOfBoundsMsg_b52d3_3 : decode cJx4a65c_outOfBoundsMsg_b52d3 3 = .ok (.dup, 1) := by decide +kernel
theorem dJx4a65c_outOfBoundsMsg_b52d3_4 : decode cJx4a65c_outOfBoundsMsg_b52d3 4 = .ok (.invokespecial 22, 3) := by decide +kernel
theorem dJx4a65c_outOfBoundsMsg_b52d3_7 : decode cJx4a65c_outOfBoundsMsg_b52d3 7 = .ok (.ldc 201, 2) := by decide +kernel
theorem dJx4a65c_outOfBoundsMsg_b52d3_9 : decode cJx4a65c_outOfBoundsMsg_b52d3 9 = .ok (.invokevirtual 25, 3) := by decide +kernel
theorem dJx4a65c_outOfBoundsMsg_b52d3_12 : decode cJx4a65c_outOfBoundsMsg_b52d3 12 = .ok (.iload_n 1, 1) := by decide +kernel
theorem dJx4a65c_outOfBoundsMsg_b52d3_13 : decode cJx4a65c_outOfBoundsMsg_b52d3 13 = .ok (.invokevirtual 29, 3) := by decide +kernel
theorem dJx4a65c_outOfBoundsMsg_b52d3_16 : decode cJx4a65c_outOfBoundsMsg_b52d3 16 = .ok (.ldc 203, 2) := by decide +kernel
theorem dJx4a65c_outOfBoundsMsg_b52d3_18 : decode cJx4a65c_outOfBoundsMsg_b52d3 18 = .ok (.invokevirtual 25, 3) := by decide +kernel
theorem dJx4a65c_outOfBoundsMsg_b52d3_21 : decode cJx4a65c_outOfBoundsMsg_b52d3 21 = .ok (.aload_n 0, 1) := by decide +kernel
theorem dJx4a65c_outOfBoundsMsg_b52d3_22 : decode cJx4a65c_outOfBoundsMsg_b52d3 22 = .ok (.getfield 48, 3) := by decide +kernel
theorem dJx4a65c_outOfBoundsMsg_b52d3_25 : decode cJx4a65c_outOfBoundsMsg_b52d3 25 = .ok (.invokevirtual 29, 3) := by decide +kernel
theorem dJx4a65c_outOfBoundsMsg_b52d3_28 : decode cJx4a65c_outOfBoundsMsg_b52d3 28 = .ok (.invokevirtual 32, 3) := by decide +kernel
theorem dJx4a65c_outOfBoundsMsg_b52d3_31 : decode cJx4a65c_outOfBoundsMsg_b52d3 31 = .ok (.areturn, 1) := by decide +kernel
theorem dJ7_rangeCheck_23922_0 : decode cJ7_rangeCheck_23922 0 = .ok (.iload_n 1, 1) := by decide +kernel
theorem dJ7_rangeCheck_23922_1 : decode cJ7_rangeCheck_23922 1 = .ok (.iload_n 2, 1) := by decide +kernel
theorem dJ7_rangeCheck_23922_2 : decode cJ7_rangeCheck_23922 2 = .ok (.if_icmp .le 44, 3) := by decide +kernel
theorem dJ7_rangeCheck_23922_5 : decode cJ7_rangeCheck_23922 5 = .ok (.new 43, 3) := by decide +kernel
theorem dJ7_rangeCheck_23922_8 : decode cJ7_rangeCheck_23922 8 = .ok (.dup, 1) := by decide +kernel
theorem dJ7_rangeCheck_23922_9 : decode cJ7_rangeCheck_23922 9 = .ok (.new 45, 3) := by decide +kernel
theorem dJ7_rangeCheck_23922_12 : decode cJ7_rangeCheck_23922 12 = .ok (.dup, 1) := by decide +kernel
theorem dJ7_rangeCheck_23922_13 : decode cJ7_rangeCheck_23922 13 = .ok (.invokespecial 47, 3) := by decide +kernel
theorem dJ7_rangeCheck_23922_16 : decode cJ7_rangeCheck_23922 16 = .ok (.ldc 48, 2) := by decide +kernel
theorem dJ7_rangeCheck_23922_18 : decode cJ7_rangeCheck_23922 18 = .ok (.invokevirtual 50, 3) := by decide +kernel
theorem dJ7_rangeCheck_23922_21 : decode cJ7_rangeCheck_23922 21 = .ok (.iload_n 1, 1) := by decide +kernel
theorem dJ7_rangeCheck_23922_22 : decode cJ7_rangeCheck_23922 22 = .ok (.invokevirtual 54, 3) := by decide +kernel
theorem dJ7_rangeCheck_23922_25 : decode cJ7_rangeCheck_23922 25 = .ok (.ldc 57, 2) := by decide +kernel
theorem dJ7_rangeCheck_23922_27 : decode cJ7_rangeCheck_23922 27 = .ok (.invokevirtual 50, 3) := by decide +kernel
theorem dJ7_rangeCheck_23922_30 : decode cJ7_rangeCheck_23922 30 = .ok (.iload_n 2, 1) := by decide +kernel
theorem dJ7_rangeCheck_23922_31 : decode cJ7_rangeCheck_23922 31 = .ok (.invokevirtual 54, 3) := by decide +kernel
theorem dJ7_rangeCheck_23922_34 : decode cJ7_rangeCheck_23922 34 = .ok (.ldc 59, 2) := by decide +kernel
theorem dJ7_rangeCheck_23922_36 : decode cJ7_rangeCheck_23922 36 = .ok (.invokevirtual 50, 3) := by decide +kernel
theorem dJ7_rangeCheck_23922_39 : decode cJ7_rangeCheck_23922 39 = .ok (.invokevirtual 61, 3) := by decide +kernel
theorem dJ7_rangeCheck_23922_42 : decode cJ7_rangeCheck_23922 42 = .ok (.invokespecial 65, 3) := by decide +kernel
theorem dJ7_rangeCheck_23922_45 : decode cJ7_rangeCheck_23922 45 = .ok (.athrow, 1) := by decide +kernel
theorem dJ7_rangeCheck_23922_46 : decode cJ7_rangeCheck_23922 46 = .ok (.iload_n 1, 1) := by decide +kernel
theorem dJ7_rangeCheck_23922_47 : decode cJ7_rangeCheck_23922 47 = .ok (.ifCond .ge 12, 3) := by decide +kernel
theorem dJ7_rangeCheck_23922_50 : decode cJ7_rangeCheck_23922 50 = .ok (.new 68, 3) := by decide +kernel
theorem dJ7_rangeCheck_23922_53 : decode cJ7_rangeCheck_23922 53 = .ok (.dup, 1) := by decide +kernel
theorem dJ7_rangeCheck_23922_54 : decode cJ7_rangeCheck_23922 54 = .ok (.iload_n 1, 1) := by decide +kernel
theorem dJ7_rangeCheck_23922_55 : decode cJ7_rangeCheck_23922 55 = .ok (.invokespecial 70, 3) := by decide +kernel
theorem dJ7_rangeCheck_23922_58 : decode cJ7_rangeCheck_23922 58 = .ok (.athrow, 1) := by decide +kernel
theorem dJ7_rangeCheck_23922_59 : decode cJ7_rangeCheck_23922 59 = .ok (.iload_n 2, 1) := by decide +kernel
theorem dJ7_rangeCheck_23922_60 : decode cJ7_rangeCheck_23922 60 = .ok (.iload_n 0, 1) := by decide +kernel
theorem dJ7_rangeCheck_23922_61 : decode cJ7_rangeCheck_23922 61 = .ok (.if_icmp .le 12, 3) := by decide +kernel
theorem dJ7_rangeCheck_23922_64 : decode cJ7_rangeCheck_23922 64 = .ok (.new 68, 3) := by decide +kernel
theorem dJ7_rangeCheck_23922_67 : decode cJ7_rangeCheck_23922 67 = .ok (.dup, 1) := by decide +kernel
theorem dJ7_rangeCheck_23922_68 : decode cJ7_rangeCheck_23922 68 = .ok (.iload_n 2, 1) := by decide +kernel
theorem dJ7_rangeCheck_23922_69 : decode cJ7_rangeCheck_23922 69 = .ok (.invokespecial 70, 3) := by decide +kernel
theorem dJ7_rangeCheck_23922_72 : decode cJ7_rangeCheck_23922 72 = .ok (.athrow, 1) := by decide +kernel
theorem dJ7_rangeCheck_23922_73 : decode cJ7_rangeCheck_23922 73 = .ok (.return_, 1) := by decide +kernel
theorem dJ7_fill_eb02e_0 : decode cJ7_fill_eb02e 0 = .ok (.aload_n 0, 1) := by decide +kernel
theorem dJ7_fill_eb02e_1 : decode cJ7_fill_eb02e 1 = .ok (.arraylength, 1) := by decide +kernel
theorem dJ7_fill_eb02e_2 : decode cJ7_fill_eb02e 2 = .ok (.iload_n 1, 1) := by decide +kernel
theorem dJ7_fill_eb02e_3 : decode cJ7_fill_eb02e 3 = .ok (.iload_n 2, 1) := by decide +kernel
theorem dJ7_fill_eb02e_4 : decode cJ7_fill_eb02e 4 = .ok (.invokestatic 13, 3) := by decide +kernel
theorem dJ7_fill_eb02e_7 : decode cJ7_fill_eb02e 7 = .ok (.iload_n 1, 1) := by decide +kernel
theorem dJ7_fill_eb02e_8 : decode cJ7_fill_eb02e 8 = .ok (.istore 4, 2) := by decide +kernel
theorem dJ7_fill_eb02e_10 : decode cJ7_fill_eb02e 10 = .ok (.iload 4, 2) := by decide +kernel
theorem dJ7_fill_eb02e_12 : decode cJ7_fill_eb02e 12 = .ok (.iload_n 2, 1) := by decide +kernel
theorem dJ7_fill_eb02e_13 : decode cJ7_fill_eb02e 13 = .ok (.if_icmp .ge 14, 3) := by decide +kernel
theorem dJ7_fill_eb02e_16 : decode cJ7_fill_eb02e 16 = .ok (.aload_n 0, 1) := by decide +kernel
theorem dJ7_fill_eb02e_17 : decode cJ7_fill_eb02e 17 = .ok (.iload 4, 2) := by decide +kernel
theorem dJ7_fill_eb02e_19 : decode cJ7_fill_eb02e 19 = .ok (.iload_n 3, 1) := by decide +kernel
theorem dJ7_fill_eb02e_20 : decode cJ7_fill_eb02e 20 = .ok (.bastore, 1) := by decide +kernel
theorem dJ7_fill_eb02e_21 : decode cJ7_fill_eb02e 21 = .ok (.iinc 4 1, 3) := by decide +kernel
theorem dJ7_fill_eb02e_24 : decode cJ7_fill_eb02e 24 = .ok (.goto (-14), 3) := by decide +kernel
theorem dJ7_fill_eb02e_27 : decode cJ7_fill_eb02e 27 = .ok (.return_, 1) := by decide +kernel
theorem dJ7_copyOf_1904c_0 : decode cJ7_copyOf_1904c 0 = .ok (.aload_n 0, 1) := by decide +kernel
theorem dJ7_copyOf_1904c_1 : decode cJ7_copyOf_1904c 1 = .ok (.iload_n 1, 1) := by decide +kernel
theorem dJ7_copyOf_1904c_2 : decode cJ7_copyOf_1904c 2 = .ok (.aload_n 0, 1) := by decide +kernel
theorem dJ7_copyOf_1904c_3 : decode cJ7_copyOf_1904c 3 = .ok (.invokevirtual 86, 3) := by decide +kernel
theorem dJ7_copyOf_1904c_6 : decode cJ7_copyOf_1904c 6 = .ok (.invokestatic 300, 3) := by decide +kernel
theorem dJ7_copyOf_1904c_9 : decode cJ7_copyOf_1904c 9 = .ok (.areturn, 1) := by decide +kernel
theorem dJ7_copyOf_6403c_0 : decode cJ7_copyOf_6403c 0 = .ok (.aload_n 2, 1) := by decide +kernel
theorem dJ7_copyOf_6403c_1 : decode cJ7_copyOf_6403c 1 = .ok (.ldc 110, 2) := by decide +kernel
theorem dJ7_copyOf_6403c_3 : decode cJ7_copyOf_6403c 3 = .ok (.if_acmp .ne 10, 3) := by decide +kernel
theorem dJ7_copyOf_6403c_6 : decode cJ7_copyOf_6403c 6 = .ok (.iload_n 1, 1) := by decide +kernel
theorem dJ7_copyOf_6403c_7 : decode cJ7_copyOf_6403c 7 = .ok (.anewarray 2, 3) := by decide +kernel
theorem dJ7_copyOf_6403c_10 : decode cJ7_copyOf_6403c 10 = .ok (.goto 14, 3) := by decide +kernel
theorem dJ7_copyOf_6403c_13 : decode cJ7_copyOf_6403c 13 = .ok (.aload_n 2, 1) := by decide +kernel
theorem dJ7_copyOf_6403c_14 : decode cJ7_copyOf_6403c 14 = .ok (.invokevirtual 90, 3) := by decide +kernel
theorem dJ7_copyOf_6403c_17 : decode cJ7_copyOf_6403c 17 = .ok (.iload_n 1, 1) := by decide +kernel
theorem dJ7_copyOf_6403c_18 : decode cJ7_copyOf_6403c 18 = .ok (.invokestatic 95, 3) := by decide +kernel
theorem dJ7_copyOf_6403c_21 : decode cJ7_copyOf_6403c 21 = .ok (.checkcast 110, 3) := by decide +kernel
theorem dJ7_copyOf_6403c_24 : decode cJ7_copyOf_6403c 24 = .ok (.astore_n 3, 1) := by decide +kernel
theorem dJ7_copyOf_6403c_25 : decode cJ7_copyOf_6403c 25 = .ok (.aload_n 0, 1) := by decide +kernel
theorem dJ7_copyOf_6403c_26 : decode cJ7_copyOf_6403c 26 = .ok (.iconst 0, 1) := by decide +kernel
theorem dJ7_copyOf_6403c_27 : decode cJ7_copyOf_6403c 27 = .ok (.aload_n 3, 1) := by decide +kernel
theorem dJ7_copyOf_6403c_28 : decode cJ7_copyOf_6403c 28 = .ok (.iconst 0, 1) := by decide +kernel
theorem dJ7_copyOf_6403c_29 : decode cJ7_copyOf_6403c 29 = .ok (.aload_n 0, 1) := by decide +kernel
theorem dJ7_copyOf_6403c_30 : decode cJ7_copyOf_6403c 30 = .ok (.arraylength, 1) := by decide +kernel
theorem dJ7_copyOf_6403c_31 : decode cJ7_copyOf_6403c 31 = .ok (.iload_n 1, 1) := by decide +kernel
theorem dJ7_copyOf_6403c_32 : decode cJ7_copyOf_6403c 32 = .ok (.invokestatic 304, 3) := by decide +kernel
theorem dJ7_copyOf_6403c_35 : decode cJ7_copyOf_6403c 35 = .ok (.invokestatic 150, 3) := by decide +kernel
theorem dJ7_copyOf_6403c_38 : decode cJ7_copyOf_6403c 38 = .ok (.aload_n 3, 1) := by decide +kernel
theorem dJ7_copyOf_6403c_39 : decode cJ7_copyOf_6403c 39 = .ok (.areturn, 1) := by decide +kernel
theorem dJ7_copyOf_9075b_0 : decode cJ7_copyOf_9075b 0 = .ok (.iload_n 1, 1) := by decide +kernel
theorem dJ7_copyOf_9075b_1 : decode cJ7_copyOf_9075b 1 = .ok (.aload_n 0, 1) := by decide +kernel
theorem dJ7_copyOf_9075b_2 : decode cJ7_copyOf_9075b 2 = .ok (.arraylength, 1) := by decide +kernel
theorem dJ7_copyOf_9075b_3 : decode cJ7_copyOf_9075b 3 = .ok (.if_icmp .ne 11, 3) := by decide +kernel
theorem dJ7_copyOf_9075b_6 : decode cJ7_copyOf_9075b 6 = .ok (.aload_n 0, 1) := by decide +kernel
theorem dJ7_copyOf_9075b_7 : decode cJ7_copyOf_9075b 7 = .ok (.invokevirtual 310, 3) := by decide +kernel
theorem dJ7_copyOf_9075b_10 : decode cJ7_copyOf_9075b 10 = .ok (.checkcast 311, 3) := by decide +kernel
theorem dJ7_copyOf_9075b_13 : decode cJ7_copyOf_9075b 13 = .ok (.areturn, 1) := by decide +kernel
theorem dJ7_copyOf_9075b_14 : decode cJ7_copyOf_9075b 14 = .ok (.iload_n 1, 1) := by decide +kernel
theorem dJ7_copyOf_9075b_15 : decode cJ7_copyOf_9075b 15 = .ok (.newarray .byte, 2) := by decide +kernel
theorem dJ7_copyOf_9075b_17 : decode cJ7_copyOf_9075b 17 = .ok (.astore_n 2, 1) := by decide +kernel
theorem dJ7_copyOf_9075b_18 : decode cJ7_copyOf_9075b 18 = .ok (.aload_n 0, 1) := by decide +kernel
theorem dJ7_copyOf_9075b_19 : decode cJ7_copyOf_9075b 19 = .ok (.iconst 0, 1) := by decide +kernel
theorem dJ7_copyOf_9075b_20 : decode cJ7_copyOf_9075b 20 = .ok (.aload_n 2, 1) := by decide +kernel
theorem dJ7_copyOf_9075b_21 : decode cJ7_copyOf_9075b 21 = .ok (.iconst 0, 1) := by decide +kernel
theorem dJ7_copyOf_9075b_22 : decode cJ7_copyOf_9075b 22 = .ok (.aload_n 0, 1) := by decide +kernel
theorem dJ7_copyOf_9075b_23 : decode cJ7_copyOf_9075b 23 = .ok (.arraylength, 1) := by decide +kernel
theorem dJ7_copyOf_9075b_24 : decode cJ7_copyOf_9075b 24 = .ok (.iload_n 1, 1) := by decide +kernel
theorem dJ7_copyOf_9075b_25 : decode cJ7_copyOf_9075b 25 = .ok (.invokestatic 304, 3) := by decide +kernel
theorem dJ7_copyOf_9075b_28 : decode cJ7_copyOf_9075b 28 = .ok (.invokestatic 150, 3) := by decide +kernel
theorem dJ7_copyOf_9075b_31 : decode cJ7_copyOf_9075b 31 = .ok (.aload_n 2, 1) := by decide +kernel
theorem dJ7_copyOf_9075b_32 : decode cJ7_copyOf_9075b 32 = .ok (.areturn, 1) := by decide +kernel
theorem dJ7_copyOf_59c91_0 : decode cJ7_copyOf_59c91 0 = .ok (.iload_n 1, 1) := by decide +kernel
theorem dJ7_copyOf_59c91_1 : decode cJ7_copyOf_59c91 1 = .ok (.aload_n 0, 1) := by decide +kernel
theorem dJ7_copyOf_59c91_2 : decode cJ7_copyOf_59c91 2 = .ok (.arraylength, 1) := by decide +kernel
theorem dJ7_copyOf_59c91_3 : decode cJ7_copyOf_59c91 3 = .ok (.if_icmp .ne 11, 3) := by decide +kernel
theorem dJ7_copyOf_59c91_6 : decode cJ7_copyOf_59c91 6 = .ok (.aload_n 0, 1) := by decide +kernel
theorem dJ7_copyOf_59c91_7 : decode cJ7_copyOf_59c91 7 = .ok (.invokevirtual 316, 3) := by decide +kernel
theorem dJ7_copyOf_59c91_10 : decode cJ7_copyOf_59c91 10 = .ok (.checkcast 317, 3) := by decide +kernel
theorem dJ7_copyOf_59c91_13 : decode cJ7_copyOf_59c91 13 = .ok (.areturn, 1) := by decide +kernel
theorem dJ7_copyOf_59c91_14 : decode cJ7_copyOf_59c91 14 = .ok (.iload_n 1, 1) := by decide +kernel
theorem dJ7_copyOf_59c91_15 : decode cJ7_copyOf_59c91 15 = .ok (.newarray .int, 2) := by decide +kernel
theorem dJ7_copyOf_59c91_17 : decode cJ7_copyOf_59c91 17 = .ok (.astore_n 2, 1) := by decide +kernel
theorem dJ7_copyOf_59c91_18 : decode cJ7_copyOf_59c91 18 = .ok (.aload_n 0, 1) := by decide +kernel
theorem dJ7_copyOf_59c91_19 : decode cJ7_copyOf_59c91 19 = .ok (.iconst 0, 1) := by decide +kernel
theorem dJ7_copyOf_59c91_20 : decode cJ7_copyOf_59c91 20 = .ok (.aload_n 2, 1) := by decide +kernel
theorem dJ7_copyOf_59c91_21 : decode cJ7_copyOf_59c91 21 = .ok (.iconst 0, 1) := by decide +kernel
theorem dJ7_copyOf_59c91_22 : decode cJ7_copyOf_59c91 22 = .ok (.aload_n 0, 1) := by decide +kernel
theorem dJ7_copyOf_59c91_23 : decode cJ7_copyOf_59c91 23 = .ok (.arraylength, 1) := by decide +kernel
theorem dJ7_copyOf_59c91_24 : decode cJ7_copyOf_59c91 24 = .ok (.iload_n 1, 1) := by decide +kernel
theorem dJ7_copyOf_59c91_25 : decode cJ7_copyOf_59c91 25 = .ok (.invokestatic 304, 3) := by decide +kernel
theorem dJ7_copyOf_59c91_28 : decode cJ7_copyOf_59c91 28 = .ok (.invokestatic 150, 3) := by decide +kernel
theorem dJ7_copyOf_59c91_31 : decode cJ7_copyOf_59c91 31 = .ok (.aload_n 2, 1) := by decide +kernel
theorem dJ7_copyOf_59c91_32 : decode cJ7_copyOf_59c91 32 = .ok (.areturn, 1) := by decide +kernel
theorem dJ7_checkLength_df160_0 : decode cJ7_checkLength_df160 0 = .ok (.iload_n 1, 1) := by decide +kernel
theorem dJ7_checkLength_df160_1 : decode cJ7_checkLength_df160 1 = .ok (.iload_n 0, 1) := by decide +kernel
theorem dJ7_checkLength_df160_2 : decode cJ7_checkLength_df160 2 = .ok (.if_icmp .ge 35, 3) := by decide +kernel
theorem dJ7_checkLength_df160_5 : decode cJ7_checkLength_df160 5 = .ok (.new 43, 3) := by decide +kernel
theorem dJ7_checkLength_df160_8 : decode cJ7_checkLength_df160 8 = .ok (.dup, 1) := by decide +kernel
theorem dJ7_checkLength_df160_9 : decode cJ7_checkLength_df160 9 = .ok (.new 45, 3) := by decide +kernel
theorem dJ7_checkLength_df160_12 : decode cJ7_checkLength_df160 12 = .ok (.dup, 1) := by decide +kernel
theorem dJ7_checkLength_df160_13 : decode cJ7_checkLength_df160 13 = .ok (.invokespecial 47, 3) := by decide +kernel
theorem dJ7_checkLength_df160_16 : decode cJ7_checkLength_df160 16 = .ok (.iload_n 0, 1) := by decide +kernel
theorem dJ7_checkLength_df160_17 : decode cJ7_checkLength_df160 17 = .ok (.invokevirtual 54, 3) := by decide +kernel
theorem dJ7_checkLength_df160_20 : decode cJ7_checkLength_df160 20 = .ok (.ldc_w 337, 3) := by decide +kernel
theorem dJ7_checkLength_df160_23 : decode cJ7_checkLength_df160 23 = .ok (.invokevirtual 50, 3) := by decide +kernel
theorem dJ7_checkLength_df160_26 : decode cJ7_checkLength_df160 26 = .ok (.iload_n 1, 1) := by decide +kernel
theorem dJ7_checkLength_df160_27 : decode cJ7_checkLength_df160 27 = .ok (.invokevirtual 54, 3) := by decide +kernel
theorem dJ7_checkLength_df160_30 : decode cJ7_checkLength_df160 30 = .ok (.invokevirtual 61, 3) := by decide +kernel
theorem dJ7_checkLength_df160_33 : decode cJ7_checkLength_df160 33 = .ok (.invokespecial 65, 3) := by decide +kernel
theorem dJ7_checkLength_df160_36 : decode cJ7_checkLength_df160 36 = .ok (.athrow, 1) := by decide +kernel
theorem dJ7_checkLength_df160_37 : decode cJ7_checkLength_df160 37 = .ok (.return_, 1) := by decide +kernel
theorem dJ7_copyOfRange_39247_0 : decode cJ7_copyOfRange_39247 0 = .ok (.iload_n 1, 1) := by decide +kernel
theorem dJ7_copyOfRange_39247_1 : decode cJ7_copyOfRange_39247 1 = .ok (.ifCond .ne 9, 3) := by decide +kernel
theorem dJ7_copyOfRange_39247_4 : decode cJ7_copyOfRange_39247 4 = .ok (.iload_n 2, 1) := by decide +kernel
theorem dJ7_copyOfRange_39247_5 : decode cJ7_copyOfRange_39247 5 = .ok (.aload_n 0, 1) := by decide +kernel
theorem dJ7_copyOfRange_39247_6 : decode cJ7_copyOfRange_39247 6 = .ok (.arraylength, 1) := by decide +kernel
theorem dJ7_copyOfRange_39247_7 : decode cJ7_copyOfRange_39247 7 = .ok (.if_icmp .eq 10, 3) := by decide +kernel
theorem dJ7_copyOfRange_39247_10 : decode cJ7_copyOfRange_39247 10 = .ok (.aload_n 0, 1) := by decide +kernel
theorem dJ7_copyOfRange_39247_11 : decode cJ7_copyOfRange_39247 11 = .ok (.iload_n 1, 1) := by decide +kernel
theorem dJ7_copyOfRange_39247_12 : decode cJ7_copyOfRange_39247 12 = .ok (.iload_n 2, 1) := by decide +kernel
theorem dJ7_copyOfRange_39247_13 : decode cJ7_copyOfRange_39247 13 = .ok (.invokestatic 339, 3) := by decide +kernel
theorem dJ7_copyOfRange_39247_16 : decode cJ7_copyOfRange_39247 16 = .ok (.areturn, 1) := by decide +kernel
theorem dJ7_copyOfRange_39247_17 : decode cJ7_copyOfRange_39247 17 = .ok (.aload_n 0, 1) := by decide +kernel
theorem dJ7_copyOfRange_39247_18 : decode cJ7_copyOfRange_39247 18 = .ok (.invokevirtual 310, 3) := by decide +kernel
theorem dJ7_copyOfRange_39247_21 : decode cJ7_copyOfRange_39247 21 = .ok (.checkcast 311, 3) := by decide +kernel
theorem dJ7_copyOfRange_39247_24 : decode cJ7_copyOfRange_39247 24 = .ok (.areturn, 1) := by decide +kernel
theorem dJ7_copyOfRangeByte_39247_0 : decode cJ7_copyOfRangeByte_39247 0 = .ok (.iload_n 1, 1) := by decide +kernel
theorem dJ7_copyOfRangeByte_39247_1 : decode cJ7_copyOfRangeByte_39247 1 = .ok (.iload_n 2, 1) := by decide +kernel
theorem dJ7_copyOfRangeByte_39247_2 : decode cJ7_copyOfRangeByte_39247 2 = .ok (.invokestatic 343, 3) := by decide +kernel
theorem dJ7_copyOfRangeByte_39247_5 : decode cJ7_copyOfRangeByte_39247 5 = .ok (.iload_n 2, 1) := by decide +kernel
theorem dJ7_copyOfRangeByte_39247_6 : decode cJ7_copyOfRangeByte_39247 6 = .ok (.iload_n 1, 1) := by decide +kernel
theorem dJ7_copyOfRangeByte_39247_7 : decode cJ7_copyOfRangeByte_39247 7 = .ok (.isub, 1) := by decide +kernel
theorem dJ7_copyOfRangeByte_39247_8 : decode cJ7_copyOfRangeByte_39247 8 = .ok (.istore_n 3, 1) := by decide +kernel
theorem dJ7_copyOfRangeByte_39247_9 : decode cJ7_copyOfRangeByte_39247 9 = .ok (.iload_n 3, 1) := by decide +kernel
theorem dJ7_copyOfRangeByte_39247_10 : decode cJ7_copyOfRangeByte_39247 10 = .ok (.newarray .byte, 2) := by decide +kernel
theorem dJ7_copyOfRangeByte_39247_12 : decode cJ7_copyOfRangeByte_39247 12 = .ok (.astore 4, 2) := by decide +kernel
theorem dJ7_copyOfRangeByte_39247_14 : decode cJ7_copyOfRangeByte_39247 14 = .ok (.aload_n 0, 1) := by decide +kernel
theorem dJ7_copyOfRangeByte_39247_15 : decode cJ7_copyOfRangeByte_39247 15 = .ok (.iload_n 1, 1) := by decide +kernel
theorem dJ7_copyOfRangeByte_39247_16 : decode cJ7_copyOfRangeByte_39247 16 = .ok (.aload 4, 2) := by decide +kernel
theorem dJ7_copyOfRangeByte_39247_18 : decode cJ7_copyOfRangeByte_39247 18 = .ok (.iconst 0, 1) := by decide +kernel
theorem dJ7_copyOfRangeByte_39247_19 : decode cJ7_copyOfRangeByte_39247 19 = .ok (.aload_n 0, 1) := by decide +kernel
theorem dJ7_copyOfRangeByte_39247_20 : decode cJ7_copyOfRangeByte_39247 20 = .ok (.arraylength, 1) := by decide +kernel
theorem dJ7_copyOfRangeByte_39247_21 : decode cJ7_copyOfRangeByte_39247 21 = .ok (.iload_n 1, 1) := by decide +kernel
theorem dJ7_copyOfRangeByte_39247_22 : decode cJ7_copyOfRangeByte_39247 22 = .ok (.isub, 1) := by decide +kernel
theorem dJ7_copyOfRangeByte_39247_23 : decode cJ7_copyOfRangeByte_39247 23 = .ok (.iload_n 3, 1) := by decide +kernel
theorem dJ7_copyOfRangeByte_39247_24 : decode cJ7_copyOfRangeByte_39247 24 = .ok (.invokestatic 304, 3) := by decide +kernel
theorem dJ7_copyOfRangeByte_39247_27 : decode cJ7_copyOfRangeByte_39247 27 = .ok (.invokestatic 150, 3) := by decide +kernel
theorem dJ7_copyOfRangeByte_39247_30 : decode cJ7_copyOfRangeByte_39247 30 = .ok (.aload 4, 2) := by decide +kernel
theorem dJ7_copyOfRangeByte_39247_32 : decode cJ7_copyOfRangeByte_39247 32 = .ok (.areturn, 1) := by decide +kernel
theorem dJ15_checkIndex_7cf53_0 : decode cJ15_checkIndex_7cf53 0 = .ok (.iload_n 0, 1) := by decide +kernel
theorem dJ15_checkIndex_7cf53_1 : decode cJ15_checkIndex_7cf53 1 = .ok (.iload_n 1, 1) := by decide +kernel
theorem dJ15_checkIndex_7cf53_2 : decode cJ15_checkIndex_7cf53 2 = .ok (.aconst_null, 1) := by decide +kernel
theorem dJ15_checkIndex_7cf53_3 : decode cJ15_checkIndex_7cf53 3 = .ok (.invokestatic 105, 3) := by decide +kernel
theorem dJ15_checkIndex_7cf53_6 : decode cJ15_checkIndex_7cf53 6 = .ok (.ireturn, 1) := by decide +kernel
theorem dJ8_newLength_cabcc_0 : decode cJ8_newLength_cabcc 0 = .ok (.iload_n 0, 1) := by decide +kernel
theorem dJ8_newLength_cabcc_1 : decode cJ8_newLength_cabcc 1 = .ok (.iload_n 1, 1) := by decide +kernel
theorem dJ8_newLength_cabcc_2 : decode cJ8_newLength_cabcc 2 = .ok (.iload_n 2, 1) := by decide +kernel
theorem dJ8_newLength_cabcc_3 : decode cJ8_newLength_cabcc 3 = .ok (.invokestatic 194, 3) := by decide +kernel
theorem dJ8_newLength_cabcc_6 : decode cJ8_newLength_cabcc 6 = .ok (.iadd, 1) := by decide +kernel
theorem dJ8_newLength_cabcc_7 : decode cJ8_newLength_cabcc 7 = .ok (.istore_n 3, 1) := by decide +kernel
theorem dJ8_newLength_cabcc_8 : decode cJ8_newLength_cabcc 8 = .ok (.iconst 0, 1) := by decide +kernel
theorem dJ8_newLength_cabcc_9 : decode cJ8_newLength_cabcc 9 = .ok (.iload_n 3, 1) := by decide +kernel
theorem dJ8_newLength_cabcc_10 : decode cJ8_newLength_cabcc 10 = .ok (.if_icmp .ge 11, 3) := by decide +kernel
theorem dJ8_newLength_cabcc_13 : decode cJ8_newLength_cabcc 13 = .ok (.iload_n 3, 1) := by decide +kernel
theorem dJ8_newLength_cabcc_14 : decode cJ8_newLength_cabcc 14 = .ok (.ldc 200, 2) := by decide +kernel
theorem dJ8_newLength_cabcc_16 : decode cJ8_newLength_cabcc 16 = .ok (.if_icmp .gt 5, 3) := by decide +kernel
theorem dJ8_newLength_cabcc_19 : decode cJ8_newLength_cabcc 19 = .ok (.iload_n 3, 1) := by decide +kernel
theorem dJ8_newLength_cabcc_20 : decode cJ8_newLength_cabcc 20 = .ok (.ireturn, 1) := by decide +kernel
theorem dJ8_newLength_cabcc_21 : decode cJ8_newLength_cabcc 21 = .ok (.iload_n 0, 1) := by decide +kernel
theorem dJ8_newLength_cabcc_22 : decode cJ8_newLength_cabcc 22 = .ok (.iload_n 1, 1) := by decide +kernel
theorem dJ8_newLength_cabcc_23 : decode cJ8_newLength_cabcc 23 = .ok (.invokestatic 201, 3) := by decide +kernel
theorem dJ8_newLength_cabcc_26 : decode cJ8_newLength_cabcc 26 = .ok (.ireturn, 1) := by decide +kernel
theorem dJ8_hugeLength_7cf53_0 : decode cJ8_hugeLength_7cf53 0 = .ok (.iload_n 0, 1) := by decide +kernel
theorem dJ8_hugeLength_7cf53_1 : decode cJ8_hugeLength_7cf53 1 = .ok (.iload_n 1, 1) := by decide +kernel
theorem dJ8_hugeLength_7cf53_2 : decode cJ8_hugeLength_7cf53 2 = .ok (.iadd, 1) := by decide +kernel
theorem dJ8_hugeLength_7cf53_3 : decode cJ8_hugeLength_7cf53 3 = .ok (.istore_n 2, 1) := by decide +kernel
theorem dJ8_hugeLength_7cf53_4 : decode cJ8_hugeLength_7cf53 4 = .ok (.iload_n 2, 1) := by decide +kernel
theorem dJ8_hugeLength_7cf53_5 : decode cJ8_hugeLength_7cf53 5 = .ok (.ifCond .ge 44, 3) := by decide +kernel
theorem dJ8_hugeLength_7cf53_8 : decode cJ8_hugeLength_7cf53 8 = .ok (.new 204, 3) := by decide +kernel
theorem dJ8_hugeLength_7cf53_11 : decode cJ8_hugeLength_7cf53 11 = .ok (.dup, 1) := by decide +kernel
theorem dJ8_hugeLength_7cf53_12 : decode cJ8_hugeLength_7cf53 12 = .ok (.new 89, 3) := by decide +kernel
theorem dJ8_hugeLength_7cf53_15 : decode cJ8_hugeLength_7cf53 15 = .ok (.dup, 1) := by decide +kernel
theorem dJ8_hugeLength_7cf53_16 : decode cJ8_hugeLength_7cf53 16 = .ok (.invokespecial 91, 3) := by decide +kernel
theorem dJ8_hugeLength_7cf53_19 : decode cJ8_hugeLength_7cf53 19 = .ok (.ldc 206, 2) := by decide +kernel
theorem dJ8_hugeLength_7cf53_21 : decode cJ8_hugeLength_7cf53 21 = .ok (.invokevirtual 94, 3) := by decide +kernel
theorem dJ8_hugeLength_7cf53_24 : decode cJ8_hugeLength_7cf53 24 = .ok (.iload_n 0, 1) := by decide +kernel
theorem dJ8_hugeLength_7cf53_25 : decode cJ8_hugeLength_7cf53 25 = .ok (.invokevirtual 98, 3) := by decide +kernel
theorem dJ8_hugeLength_7cf53_28 : decode cJ8_hugeLength_7cf53 28 = .ok (.ldc 208, 2) := by decide +kernel
theorem dJ8_hugeLength_7cf53_30 : decode cJ8_hugeLength_7cf53 30 = .ok (.invokevirtual 94, 3) := by decide +kernel
theorem dJ8_hugeLength_7cf53_33 : decode cJ8_hugeLength_7cf53 33 = .ok (.iload_n 1, 1) := by decide +kernel
theorem dJ8_hugeLength_7cf53_34 : decode cJ8_hugeLength_7cf53 34 = .ok (.invokevirtual 98, 3) := by decide +kernel
theorem dJ8_hugeLength_7cf53_37 : decode cJ8_hugeLength_7cf53 37 = .ok (.ldc 210, 2) := by decide +kernel
theorem dJ8_hugeLength_7cf53_39 : decode cJ8_hugeLength_7cf53 39 = .ok (.invokevirtual 94, 3) := by decide +kernel
theorem dJ8_hugeLength_7cf53_42 : decode cJ8_hugeLength_7cf53 42 = .ok (.invokevirtual 101, 3) := by decide +kernel
theorem dJ8_hugeLength_7cf53_45 : decode cJ8_hugeLength_7cf53 45 = .ok (.invokespecial 212, 3) := by decide +kernel
theorem dJ8_hugeLength_7cf53_48 : decode cJ8_hugeLength_7cf53 48 = .ok (.athrow, 1) := by decide +kernel
theorem dJ8_hugeLength_7cf53_49 : decode cJ8_hugeLength_7cf53 49 = .ok (.iload_n 2, 1) := by decide +kernel
theorem dJ8_hugeLength_7cf53_50 : decode cJ8_hugeLength_7cf53 50 = .ok (.ldc 200, 2) := by decide +kernel
theorem dJ8_hugeLength_7cf53_52 : decode cJ8_hugeLength_7cf53 52 = .ok (.if_icmp .gt 6, 3) := by decide +kernel
theorem dJ8_hugeLength_7cf53_55 : decode cJ8_hugeLength_7cf53 55 = .ok (.ldc 200, 2) := by decide +kernel
theorem dJ8_hugeLength_7cf53_57 : decode cJ8_hugeLength_7cf53 57 = .ok (.ireturn, 1) := by decide +kernel
theorem dJ8_hugeLength_7cf53_58 : decode cJ8_hugeLength_7cf53 58 = .ok (.iload_n 2, 1) := by decide +kernel
theorem dJ8_hugeLength_7cf53_59 : decode cJ8_hugeLength_7cf53 59 = .ok (.ireturn, 1) := by decide +kernel
theorem dJ3_checkIndex_8e157_0 : decode cJ3_checkIndex_8e157 0 = .ok (.iload_n 0, 1) := by decide +kernel
theorem dJ3_checkIndex_8e157_1 : decode cJ3_checkIndex_8e157 1 = .ok (.ifCond .lt 8, 3) := by decide +kernel
theorem dJ3_checkIndex_8e157_4 : decode cJ3_checkIndex_8e157 4 = .ok (.iload_n 0, 1) := by decide +kernel
theorem dJ3_checkIndex_8e157_5 : decode cJ3_checkIndex_8e157 5 = .ok (.iload_n 1, 1) := by decide +kernel
theorem dJ3_checkIndex_8e157_6 : decode cJ3_checkIndex_8e157 6 = .ok (.if_icmp .lt 10, 3) := by decide +kernel
theorem dJ3_checkIndex_8e157_9 : decode cJ3_checkIndex_8e157 9 = .ok (.aload_n 2, 1) := by decide +kernel
theorem dJ3_checkIndex_8e157_10 : decode cJ3_checkIndex_8e157 10 = .ok (.iload_n 0, 1) := by decide +kernel
theorem dJ3_checkIndex_8e157_11 : decode cJ3_checkIndex_8e157 11 = .ok (.iload_n 1, 1) := by decide +kernel
theorem dJ3_checkIndex_8e157_12 : decode cJ3_checkIndex_8e157 12 = .ok (.invokestatic 95, 3) := by decide +kernel
theorem dJ3_checkIndex_8e157_15 : decode cJ3_checkIndex_8e157 15 = .ok (.athrow, 1) := by decide +kernel
theorem dJ3_checkIndex_8e157_16 : decode cJ3_checkIndex_8e157 16 = .ok (.iload_n 0, 1) := by decide +kernel
theorem dJ3_checkIndex_8e157_17 : decode cJ3_checkIndex_8e157 17 = .ok (.ireturn, 1) := by decide +kernel
theorem dJ3_checkFromToIndex_8c36e_0 : decode cJ3_checkFromToIndex_8c36e 0 = .ok (.iload_n 0, 1) := by decide +kernel
theorem dJ3_checkFromToIndex_8c36e_1 : decode cJ3_checkFromToIndex_8c36e 1 = .ok (.ifCond .lt 13, 3) := by decide +kernel
theorem dJ3_checkFromToIndex_8c36e_4 : decode cJ3_checkFromToIndex_8c36e 4 = .ok (.iload_n 0, 1) := by decide +kernel
theorem dJ3_checkFromToIndex_8c36e_5 : decode cJ3_checkFromToIndex_8c36e 5 = .ok (.iload_n 1, 1) := by decide +kernel
theorem dJ3_checkFromToIndex_8c36e_6 : decode cJ3_checkFromToIndex_8c36e 6 = .ok (.if_icmp .gt 8, 3) := by decide +kernel
theorem dJ3_checkFromToIndex_8c36e_9 : decode cJ3_checkFromToIndex_8c36e 9 = .ok (.iload_n 1, 1) := by decide +kernel
theorem dJ3_checkFromToIndex_8c36e_10 : decode cJ3_checkFromToIndex_8c36e 10 = .ok (.iload_n 2, 1) := by decide +kernel
theorem dJ3_checkFromToIndex_8c36e_11 : decode cJ3_checkFromToIndex_8c36e 11 = .ok (.if_icmp .le 11, 3) := by decide +kernel
theorem dJ3_checkFromToIndex_8c36e_14 : decode cJ3_checkFromToIndex_8c36e 14 = .ok (.aload_n 3, 1) := by decide +kernel
theorem dJ3_checkFromToIndex_8c36e_15 : decode cJ3_checkFromToIndex_8c36e 15 = .ok (.iload_n 0, 1) := by decide +kernel
theorem dJ3_checkFromToIndex_8c36e_16 : decode cJ3_checkFromToIndex_8c36e 16 = .ok (.iload_n 1, 1) := by decide +kernel
theorem dJ3_checkFromToIndex_8c36e_17 : decode cJ3_checkFromToIndex_8c36e 17 = .ok (.iload_n 2, 1) := by decide +kernel
theorem dJ3_checkFromToIndex_8c36e_18 : decode cJ3_checkFromToIndex_8c36e 18 = .ok (.invokestatic 99, 3) := by decide +kernel
theorem dJ3_checkFromToIndex_8c36e_21 : decode cJ3_checkFromToIndex_8c36e 21 = .ok (.athrow, 1) := by decide +kernel
theorem dJ3_checkFromToIndex_8c36e_22 : decode cJ3_checkFromToIndex_8c36e 22 = .ok (.iload_n 0, 1) := by decide +kernel
theorem dJ3_checkFromToIndex_8c36e_23 : decode cJ3_checkFromToIndex_8c36e 23 = .ok (.ireturn, 1) := by decide +kernel
theorem dJ3_checkFromIndexSize_8c36e_0 : decode cJ3_checkFromIndexSize_8c36e 0 = .ok (.iload_n 2, 1) := by decide +kernel
theorem dJ3_checkFromIndexSize_8c36e_1 : decode cJ3_checkFromIndexSize_8c36e 1 = .ok (.iload_n 0, 1) := by decide +kernel
theorem dJ3_checkFromIndexSize_8c36e_2 : decode cJ3_checkFromIndexSize_8c36e 2 = .ok (.ior, 1) := by decide +kernel
theorem dJ3_checkFromIndexSize_8c36e_3 : decode cJ3_checkFromIndexSize_8c36e 3 = .ok (.iload_n 1, 1) := by decide +kernel
theorem dJ3_checkFromIndexSize_8c36e_4 : decode cJ3_checkFromIndexSize_8c36e 4 = .ok (.ior, 1) := by decide +kernel
theorem dJ3_checkFromIndexSize_8c36e_5 : decode cJ3_checkFromIndexSize_8c36e 5 = .ok (.ifCond .lt 10, 3) := by decide +kernel
theorem dJ3_checkFromIndexSize_8c36e_8 : decode cJ3_checkFromIndexSize_8c36e 8 = .ok (.iload_n 1, 1) := by decide +kernel
theorem dJ3_checkFromIndexSize_8c36e_9 : decode cJ3_checkFromIndexSize_8c36e 9 = .ok (.iload_n 2, 1) := by decide +kernel
theorem dJ3_checkFromIndexSize_8c36e_10 : decode cJ3_checkFromIndexSize_8c36e 10 = .ok (.iload_n 0, 1) := by decide +kernel
theorem dJ3_checkFromIndexSize_8c36e_11 : decode cJ3_checkFromIndexSize_8c36e 11 = .ok (.isub, 1) := by decide +kernel
theorem dJ3_checkFromIndexSize_8c36e_12 : decode cJ3_checkFromIndexSize_8c36e 12 = .ok (.if_icmp .le 11, 3) := by decide +kernel
theorem dJ3_checkFromIndexSize_8c36e_15 : decode cJ3_checkFromIndexSize_8c36e 15 = .ok (.aload_n 3, 1) := by decide +kernel
theorem dJ3_checkFromIndexSize_8c36e_16 : decode cJ3_checkFromIndexSize_8c36e 16 = .ok (.iload_n 0, 1) := by decide +kernel
theorem dJ3_checkFromIndexSize_8c36e_17 : decode cJ3_checkFromIndexSize_8c36e 17 = .ok (.iload_n 1, 1) := by decide +kernel
theorem dJ3_checkFromIndexSize_8c36e_18 : decode cJ3_checkFromIndexSize_8c36e 18 = .ok (.iload_n 2, 1) := by decide +kernel
theorem dJ3_checkFromIndexSize_8c36e_19 : decode cJ3_checkFromIndexSize_8c36e 19 = .ok (.invokestatic 103, 3) := by decide +kernel
theorem dJ3_checkFromIndexSize_8c36e_22 : decode cJ3_checkFromIndexSize_8c36e 22 = .ok (.athrow, 1) := by decide +kernel
theorem dJ3_checkFromIndexSize_8c36e_23 : decode cJ3_checkFromIndexSize_8c36e 23 = .ok (.iload_n 0, 1) := by decide +kernel
theorem dJ3_checkFromIndexSize_8c36e_24 : decode cJ3_checkFromIndexSize_8c36e 24 = .ok (.ireturn, 1) := by decide +kernel
end
section
/-! ===== the world as numbers: addresses by order of making, kinds, lengths, whole-number slots, reference slots ===== -/
abbrev AV : Type := Int ⊕ (Nat ⊕ Value)
abbrev xI (z : Int) : AV := Sum.inl z
abbrev xR (n : Nat) : AV := Sum.inr (Sum.inl n)
abbrev xV (v : Value) : AV := Sum.inr (Sum.inr v)
abbrev xU : AV := xV (.retAddr 0)
abbrev GP : Type := va_G × (Nat → ClassId) × Nat × (Nat → Nat) × Nat × (Nat → Int32)
def g_D (g : GP) : va_G := g.1
def g_A (g : GP) : Nat → ClassId := g.2.1
def g_b (g : GP) : Nat := g.2.2.1
def g_s (g : GP) : Nat → Nat := g.2.2.2.1
def g_l (g : GP) : Nat := g.2.2.2.2.1
def g_x (g : GP) : Nat → Int32 := g.2.2.2.2.2
def g_a (g : GP) (n : Nat) : Nat := if n < 8 then g_s g n else g_b g + (n - 8)
def rv (g : GP) (n : Nat) : Value := if n = 0 then .null else .ref (g_a g n)
def cv (g : GP) : AV → Value
  | .inl z => .int (Int32.ofInt z)
  | .inr (.inl n) => rv g n
  | .inr (.inr v) => v
theorem rv_pos {g : GP} {n : Nat} (h : n ≠ 0) : rv g n = .ref (g_a g n) := if_neg h
theorem rv_0 {g : GP} : rv g 0 = .null := rfl
theorem ga_own {g : GP} {n : Nat} (h : 8 ≤ n) : g_a g n = g_b g + (n - 8) := if_neg (by omega)
theorem ga_inj {g : GP} {a b : Nat} (ha : 8 ≤ a) (hb : 8 ≤ b) (h : g_a g a = g_a g b) : a = b := by
  rw [ga_own ha, ga_own hb] at h
  omega
abbrev AH : Type := (Nat → Nat) × (Nat → Nat) × (Nat → Nat → Int) × (Nat → Nat → Nat) × Nat × Nat
def h_k (h : AH) : Nat → Nat := h.1
def h_l (h : AH) : Nat → Nat := h.2.1
def h_i (h : AH) : Nat → Nat → Int := h.2.2.1
def h_r (h : AH) : Nat → Nat → Nat := h.2.2.2.1
def h_n (h : AH) : Nat := h.2.2.2.2.1
def h_u (h : AH) : Nat := h.2.2.2.2.2
def u_2 {α : Type} (f : Nat → Nat → α) (a j : Nat) (x : α) : Nat → Nat → α := fun a' j' => if a' = a ∧ j' = j then x else f a' j'
def u_1 {α : Type} (f : Nat → α) (a : Nat) (x : α) : Nat → α := fun a' => if a' = a then x else f a'
theorem u2_s {α : Type} {f : Nat → Nat → α} {a j : Nat} {x : α} : u_2 f a j x a j = x := by simp [u_2]
theorem u2_a {α : Type} {f : Nat → Nat → α} {a j a' j' : Nat} {x : α} (h : a' ≠ a) : u_2 f a j x a' j' = f a' j' := by simp [u_2, h]
theorem u2_j {α : Type} {f : Nat → Nat → α} {a j a' j' : Nat} {x : α} (h : j' ≠ j) : u_2 f a j x a' j' = f a' j' := by simp [u_2, h]
theorem u1_s {α : Type} {f : Nat → α} {a : Nat} {x : α} : u_1 f a x a = x := by simp [u_1]
theorem u1_n {α : Type} {f : Nat → α} {a a' : Nat} {x : α} (h : a' ≠ a) : u_1 f a x a' = f a' := by simp [u_1, h]
/-- a whole number stored, a reference stored -/
def h_si (h : AH) (a j : Nat) (z : Int) : AH := (h.1, h.2.1, u_2 h.2.2.1 a j z, h.2.2.2.1, h.2.2.2.2.1, h.2.2.2.2.2)
def h_sr (h : AH) (a j : Nat) (r : Nat) : AH := (h.1, h.2.1, h.2.2.1, u_2 h.2.2.2.1 a j r, h.2.2.2.2.1, h.2.2.2.2.2)
/-- a thing made: its kind, its length, its slots -/
def h_mk (h : AH) (k n N : Nat) : AH := (u_1 h.1 h.2.2.2.2.1 k, u_1 h.2.1 h.2.2.2.2.1 n, (fun a j => if a = h.2.2.2.2.1 then 0 else h.2.2.1 a j), (fun a j => if a = h.2.2.2.2.1 then 0 else h.2.2.2.1 a j), h.2.2.2.2.1 + 1, h.2.2.2.2.2 + N)
/-- only the counts moved (a thing was made that nobody holds) -/
def h_ct (h : AH) (n u : Nat) : AH := (h.1, h.2.1, h.2.2.1, h.2.2.2.1, n, u)
/-- a stretch copied -/
def h_ci (h : AH) (a sp b dp n : Nat) : AH := (h.1, h.2.1, (fun q j => if q = b ∧ dp ≤ j ∧ j < dp + n then h.2.2.1 a (sp + (j - dp)) else h.2.2.1 q j), h.2.2.2.1, h.2.2.2.2.1, h.2.2.2.2.2)
def h_cr (h : AH) (a sp b dp n : Nat) : AH := (h.1, h.2.1, h.2.2.1, (fun q j => if q = b ∧ dp ≤ j ∧ j < dp + n then h.2.2.2.1 a (sp + (j - dp)) else h.2.2.2.1 q j), h.2.2.2.2.1, h.2.2.2.2.2)
/-- the fields of the classes: how many, which are references -/
def c_N : Nat → Nat
  | 0 => 4
  | 1 => 4
  | 2 => 6
  | 3 => 6
  | 4 => 3
  | 5 => 5
  | 6 => 11
  | 7 => 3
  | 8 => 13
  | 9 => 31
  | _ => 0
def c_R : Nat → Nat → Bool
  | 0, 0 => true
  | 1, 0 => true
  | 2, 0 => true
  | 2, 1 => true
  | 2, 2 => true
  | 2, 3 => true
  | 2, 5 => true
  | 3, 0 => true
  | 3, 1 => true
  | 3, 2 => true
  | 3, 3 => true
  | 3, 5 => true
  | 4, 1 => true
  | 5, 3 => true
  | 6, 1 => true
  | 6, 4 => true
  | 7, 0 => true
  | 7, 1 => true
  | 8, 0 => true
  | 8, 2 => true
  | 8, 3 => true
  | 8, 4 => true
  | 8, 5 => true
  | 8, 10 => true
  | 8, 11 => true
  | 8, 12 => true
  | 9, 0 => true
  | 9, 1 => true
  | 9, 2 => true
  | 9, 3 => true
  | 9, 4 => true
  | 9, 5 => true
  | 9, 6 => true
  | 9, 7 => true
  | 9, 8 => true
  | 9, 9 => true
  | 9, 10 => true
  | 9, 11 => true
  | 9, 12 => true
  | 9, 13 => true
  | 9, 14 => true
  | 9, 15 => true
  | 9, 16 => true
  | 9, 17 => true
  | 9, 18 => true
  | 9, 30 => true
  | _, _ => false
def f_v (g : GP) (r : Bool) (z : Int) (n : Nat) : Value := if r = true then rv g n else .int (Int32.ofInt z)
def a_v (g : GP) (t : Nat) (z : Int) (n : Nat) : Value := if t = 4 then rv g n else if t = 5 then .long (Int64.ofInt z) else if t = 6 then .double (UInt64.ofNat z.toNat) else .int (Int32.ofInt z)
def g_ty : Nat → FieldType
  | 0 => .byte
  | 1 => .char
  | 2 => .int
  | 3 => .boolean
  | 4 => .object "java/lang/Object"
  | 5 => .long
  | _ => .double
def g_t (g : GP) : List (ClassId × FieldType) := [(g_A g 0, .byte), (g_A g 1, .char), (g_A g 2, .int), (g_A g 3, .boolean), (g_A g 4, .object "java/lang/Object"), (g_A g 5, .long), (g_A g 6, .double)]
/-- the cell of the thing a -/
def Ce (g : GP) (h : AH) (a : Nat) (cell : Cell) : Prop :=
  (h_k h a ≤ 10 ∧ cell.cls = (g_D g).1 (h_k h a - 1) ∧ cell.vm = .none ∧ ∀ j, j < c_N (h_k h a - 1) → cell.slots[(g_D g).2 (h_k h a - 1) j]? = some (f_v g (c_R (h_k h a - 1) j) (h_i h a j) (h_r h a j))) ∨
  (20 ≤ h_k h a ∧ h_k h a ≤ 26 ∧ cell = arrV (g_A g (h_k h a - 20)) (h_l h a) (fun j => a_v g (h_k h a - 20) (h_i h a j) (h_r h a j)))
def z_s (b : Nat) (H : Heap) : Nat := ((H.toList.map (fun c => c.slots.size)).drop b).sum
def Rp (g : GP) (h : AH) (H : Heap) : Prop :=
  g_b g + h_n h = H.size + 8 ∧ 8 ≤ h_n h ∧ (∀ a, h_k h a ≠ 0 → 8 ≤ a ∧ a < h_n h ∧ ∃ cell, H[g_a g a]? = some cell ∧ Ce g h a cell) ∧ z_s (g_b g) H ≤ h_u h
theorem z_s_congr {b : Nat} {H H' : Heap} (hz : H'.size = H.size) (h : ∀ q : Nat, (H'[q]?).map (fun c => c.slots.size) = (H[q]?).map (fun c => c.slots.size)) : z_s b H' = z_s b H := by
  have e : H'.toList.map (fun c => c.slots.size) = H.toList.map (fun c => c.slots.size) := by
    apply List.ext_getElem?
    intro i
    simp only [List.getElem?_map, Array.getElem?_toList]
    exact h i
  rw [z_s, z_s, e]
theorem z_s_push {b N : Nat} {H H' : Heap} {cell : Cell} (hb : b ≤ H.size) (hz : H'.size = H.size + 1) (hc : H'[H.size]? = some cell) (hN : cell.slots.size = N) (h : ∀ q : Nat, q < H.size → H'[q]? = H[q]?) : z_s b H' = z_s b H + N := by
  have e : H'.toList.map (fun c => c.slots.size) = H.toList.map (fun c => c.slots.size) ++ [N] := by
    apply List.ext_getElem?
    intro i
    simp only [List.getElem?_map, Array.getElem?_toList]
    by_cases hi : i < H.size
    · rw [h i hi, List.getElem?_append_left (by simpa using hi)]
      simp
    · by_cases hi2 : i = H.size
      · subst hi2
        rw [hc, List.getElem?_append_right (by simp)]
        simp [hN]
      · rw [Array.getElem?_eq_none (by omega), List.getElem?_append_right (by simp; omega)]
        rw [List.getElem?_eq_none (by simp; omega)]
        rfl
  rw [z_s, z_s, e, List.drop_append_of_le_length (by simpa using hb)]
  simp
/-- Ce looks at one thing's rows alone -/
theorem Ce.congr {g : GP} {h h' : AH} {a : Nat} {cell : Cell} (hk : h_k h' a = h_k h a) (hl : h_l h' a = h_l h a) (hi : ∀ j, h_i h' a j = h_i h a j) (hr : ∀ j, h_r h' a j = h_r h a j) (hc : Ce g h a cell) : Ce g h' a cell := by
  unfold Ce at hc ⊢
  simp only [hk, hl, hi, hr]
  exact hc
theorem Ce.none {g : GP} {h : AH} {a : Nat} {cell : Cell} (hc : Ce g h a cell) : cell.vm = .none := by
  rcases hc with ⟨-, -, h1, -⟩ | ⟨-, -, h1⟩
  · exact h1
  · rw [h1]; rfl
/-- one thing's cell changed, its size the same -/
theorem Rp.upd {g : GP} {h h' : AH} {H H' : Heap} {a : Nat} {cell cell' : Cell} (P : Rp g h H) (hk : h_k h a ≠ 0) (hc : H[g_a g a]? = some cell) (e1 : H'[g_a g a]? = some cell') (e2 : H'.size = H.size) (e3 : ∀ q, q ≠ g_a g a → H'[q]? = H[q]?)
    (hs : cell'.slots.size = cell.slots.size) (hce : Ce g h' a cell') (k1 : h_k h' = h_k h) (k2 : ∀ q, q ≠ a → h_l h' q = h_l h q ∧ (∀ j, h_i h' q j = h_i h q j) ∧ ∀ j, h_r h' q j = h_r h q j) (k3 : h_n h' = h_n h) (k4 : h_u h' = h_u h) : Rp g h' H' := by
  obtain ⟨p1, p2, p3, p4⟩ := P
  refine ⟨by rw [k3, e2]; exact p1, by rw [k3]; exact p2, fun q hq => ?_, ?_⟩
  · rw [k1] at hq
    obtain ⟨h1, h2, c, h3, h4⟩ := p3 q hq
    refine ⟨h1, by rw [k3]; exact h2, ?_⟩
    by_cases e : q = a
    · subst e
      exact ⟨cell', e1, hce⟩
    · refine ⟨c, ?_, Ce.congr (by rw [k1]) (k2 q e).1 (k2 q e).2.1 (k2 q e).2.2 h4⟩
      rw [e3 _ (fun z => e (ga_inj h1 (p3 a hk).1 z))]
      exact h3
  · rw [k4]
    refine Nat.le_trans (Nat.le_of_eq (z_s_congr e2 fun q => ?_)) p4
    by_cases e : q = g_a g a
    · subst e
      rw [e1, hc]
      simp [hs]
    · rw [e3 q e]
/-- a thing made -/
theorem Rp.mk {g : GP} {h h' : AH} {H H' : Heap} {cell : Cell} {N : Nat} (P : Rp g h H) (e1 : H'[H.size]? = some cell) (e2 : H'.size = H.size + 1) (e3 : ∀ q, q < H.size → H'[q]? = H[q]?) (hs : cell.slots.size ≤ N)
    (hce : h_k h' (h_n h) ≠ 0 → Ce g h' (h_n h) cell) (k2 : ∀ q, q ≠ h_n h → h_k h' q = h_k h q ∧ h_l h' q = h_l h q ∧ (∀ j, h_i h' q j = h_i h q j) ∧ ∀ j, h_r h' q j = h_r h q j) (k3 : h_n h' = h_n h + 1) (k4 : h_u h' = h_u h + N) : Rp g h' H' := by
  obtain ⟨p1, p2, p3, p4⟩ := P
  refine ⟨by omega, by omega, fun q hq => ?_, ?_⟩
  · by_cases e : q = h_n h
    · subst e
      refine ⟨p2, by omega, cell, ?_, hce hq⟩
      rw [ga_own p2, show g_b g + (h_n h - 8) = H.size by omega]
      exact e1
    · rw [(k2 q e).1] at hq
      obtain ⟨h1, h2, c, h3, h4⟩ := p3 q hq
      refine ⟨h1, by omega, c, ?_, Ce.congr (k2 q e).1 (k2 q e).2.1 (k2 q e).2.2.1 (k2 q e).2.2.2 h4⟩
      rw [e3 _ (by rw [ga_own h1]; omega)]
      exact h3
  · rw [k4, z_s_push (by omega) e2 e1 rfl e3]
    omega
theorem Rp.own {g : GP} {h : AH} {H : Heap} {a : Nat} (P : Rp g h H) (hk : h_k h a ≠ 0) : 8 ≤ a := (P.2.2.1 a hk).1
theorem Rp.lt {g : GP} {h : AH} {H : Heap} {a : Nat} (P : Rp g h H) (hk : h_k h a ≠ 0) : a < h_n h := (P.2.2.1 a hk).2.1
theorem Rp.rv {g : GP} {h : AH} {H : Heap} {a : Nat} (P : Rp g h H) (hk : h_k h a ≠ 0) : rv g a = .ref (g_a g a) := rv_pos (by have := P.own hk; omega)
theorem Rp.base {g : GP} {h : AH} {H : Heap} {a : Nat} (P : Rp g h H) (hk : h_k h a ≠ 0) : g_b g ≤ g_a g a := by
  rw [ga_own (P.own hk)]; omega
theorem Rp.obj {g : GP} {h : AH} {H : Heap} {a ci : Nat} (P : Rp g h H) (hk : h_k h a = ci + 1) (hci : ci < 10) : ∃ cell, H[g_a g a]? = some cell ∧ cell.cls = (g_D g).1 ci ∧ cell.vm = .none ∧ ∀ j, j < c_N ci → cell.slots[(g_D g).2 ci j]? = some (f_v g (c_R ci j) (h_i h a j) (h_r h a j)) := by
  obtain ⟨-, -, cell, h3, h4⟩ := P.2.2.1 a (by omega)
  rcases h4 with ⟨-, h1, h2, h5⟩ | ⟨h1, -⟩
  · rw [hk] at h1 h5
    exact ⟨cell, h3, h1, h2, h5⟩
  · omega
theorem Rp.arr {g : GP} {h : AH} {H : Heap} {a t : Nat} (P : Rp g h H) (hk : h_k h a = 20 + t) : H[g_a g a]? = some (arrV (g_A g t) (h_l h a) (fun j => a_v g t (h_i h a j) (h_r h a j))) := by
  obtain ⟨-, -, cell, h3, h4⟩ := P.2.2.1 a (by omega)
  rcases h4 with ⟨h1, -⟩ | ⟨-, -, h5⟩
  · omega
  · rw [h3, h5, hk, show 20 + t - 20 = t by omega]
theorem k_ty {g : GP} {s : State} {cl : List vw_C} (hK : va_K (g_D g) cl (g_t g) s) {t : Nat} (ht : t ≤ 6) : ArrOfT s (g_A g t) (g_ty t) ∧ va_RA s (g_A g t) (g_ty t) := by
  have h : (g_t g)[t]? = some (g_A g t, g_ty t) := by
    match t, ht with
    | 0, _ => rfl
    | 1, _ => rfl
    | 2, _ => rfl
    | 3, _ => rfl
    | 4, _ => rfl
    | 5, _ => rfl
    | 6, _ => rfl
  exact hK.2 t _ h
/-- the counts may be said anew, nearer -/
theorem st_tight {p : Program} {l : Launch} {e : Env} {R : Room} {s : State} {m : MethodId} {args : Array Value} {below : List Frame} {meth : Method} {c : Code} {T : State} {locs : List Loc} {cells slots k n : Nat}
    (X : Stand p l e R s m args below meth c T locs cells slots) (h1 : T.heap.size ≤ s.heap.size + k) (h2 : ((T.heap.toList.drop s.heap.size).map (·.slots.size)).sum ≤ n) : Stand p l e R s m args below meth c T locs k n := by
  obtain ⟨a1, a2, a3, a4, a5, a6, a7, a8, a9, a10, a11, a12, a13, a14⟩ := X
  obtain ⟨b1, b2, b3, b4, b5, b6⟩ := a14
  exact ⟨a1, a2, a3, a4, a5, a6, a7, a8, a9, a10, a11, a12, a13, b1, b2, h1, b4, h2, b6⟩
theorem st_sum {p : Program} {l : Launch} {e : Env} {R : Room} {s : State} {m : MethodId} {args : Array Value} {below : List Frame} {meth : Method} {c : Code} {T : State} {locs : List Loc} {cells slots b : Nat}
    (X : Stand p l e R s m args below meth c T locs cells slots) (hb : b ≤ s.heap.size) : z_s b T.heap = z_s b s.heap + ((T.heap.toList.drop s.heap.size).map (·.slots.size)).sum := by
  obtain ⟨-, b2, -, -, -, b6⟩ := X.same
  have b2 : s.heap.size ≤ T.heap.size := b2
  have e : T.heap.toList.map (fun c => c.slots.size) = s.heap.toList.map (fun c => c.slots.size) ++ (T.heap.toList.drop s.heap.size).map (fun c => c.slots.size) := by
    apply List.ext_getElem?
    intro i
    by_cases hi : i < s.heap.size
    · rw [List.getElem?_append_left (by simpa using hi)]
      simp only [List.getElem?_map, Array.getElem?_toList]
      obtain ⟨c', h1, -, h3, -⟩ := b6 i _ (Array.getElem?_eq_getElem hi)
      have h1 : T.heap[i]? = some c' := h1
      rw [h1, Array.getElem?_eq_getElem hi]
      simp [h3]
    · rw [List.getElem?_append_right (by simp; omega)]
      simp only [List.getElem?_map, Array.getElem?_toList, List.getElem?_drop, List.length_map, Array.length_toList]
      rw [show s.heap.size + (i - s.heap.size) = i by omega]
  rw [z_s, z_s, e, List.drop_append_of_le_length (by simpa using hb), List.sum_append]
end
section

abbrev MT : Type := MethodName × ByteArray × Nat × Option FieldType × List (Nat × Nat × Nat × Nat)
abbrev Res : Type := Option AV ⊕ String
def GW : List Cond := lw_tbl.filter goodWord
def z_CC : Nat := 603072
def z_CS : Nat := 7215210
/-- the Strings of the class's messages: pool entry and text -/
def z_str : List (Nat × String) := [(322, "no such question in the list"), (48, "no such word"), (59, "the row is full"), (62, "the level is out of range"), (66, "the row is empty"), (73, "there are 40 questions"), (315, "no such question"), (97, "a question is no twin of itself"), (158, "it is the last week"), (160, "no such week"), (162, "no such kind"), (164, "the number is out of range"), (166, "there are 12 plans"), (318, "no such plan"), (181, "the plan is dropped"), (205, "a number is out of range"), (207, "no question is wanted"), (213, "there are no candidates"), (215, "there are 30 sheets"), (233, "the plan gives no quiz"), (320, "no such sheet"), (247, "the spooler is jammed"), (252, "no sheet waits"), (260, "the sheet does not wait"), (262, "the sheet is not printed"), (268, "the question is answered"), (287, "no such letter"), (295, "there are no answers"), (298, "there are no questions")]
def z_cast : List (String × String) := [("java/util/NoSuchElementException", "java/util/NoSuchElementException"), ("java/lang/IllegalArgumentException", "java/lang/IllegalArgumentException"), ("java/lang/IllegalStateException", "java/lang/IllegalStateException"), ("java/lang/UnsupportedOperationException", "java/lang/UnsupportedOperationException"), ("java/lang/IndexOutOfBoundsException", "java/lang/IndexOutOfBoundsException"), ("java/lang/ArithmeticException", "java/lang/ArithmeticException"), ("Quizspool", "java/lang/Object"), ("QuizspoolModel", "java/lang/Object"), ("Quizspool$Question", "java/lang/Object"), ("Quizspool$Plan", "java/lang/Object"), ("Quizspool$Sheet", "java/lang/Object")]
def z_ncast : List (String × String) := [("java/lang/IllegalStateException", "java/lang/IllegalArgumentException"), ("java/lang/UnsupportedOperationException", "java/lang/IllegalArgumentException"), ("java/util/NoSuchElementException", "java/lang/IllegalArgumentException"), ("java/lang/IndexOutOfBoundsException", "java/lang/IllegalArgumentException"), ("java/lang/ArithmeticException", "java/lang/IllegalArgumentException"), ("java/lang/IllegalArgumentException", "java/lang/IllegalStateException"), ("java/lang/UnsupportedOperationException", "java/lang/IllegalStateException"), ("java/util/NoSuchElementException", "java/lang/IllegalStateException"), ("java/lang/IndexOutOfBoundsException", "java/lang/IllegalStateException"), ("java/lang/ArithmeticException", "java/lang/IllegalStateException"), ("java/lang/IllegalArgumentException", "java/lang/UnsupportedOperationException"), ("java/lang/IllegalStateException", "java/lang/UnsupportedOperationException"), ("java/util/NoSuchElementException", "java/lang/UnsupportedOperationException"), ("java/lang/IndexOutOfBoundsException", "java/lang/UnsupportedOperationException"), ("java/lang/ArithmeticException", "java/lang/UnsupportedOperationException"), ("java/lang/IllegalArgumentException", "java/lang/IndexOutOfBoundsException"), ("java/lang/IllegalStateException", "java/lang/IndexOutOfBoundsException"), ("java/lang/UnsupportedOperationException", "java/lang/IndexOutOfBoundsException"), ("java/util/NoSuchElementException", "java/lang/IndexOutOfBoundsException"), ("java/lang/ArithmeticException", "java/lang/IndexOutOfBoundsException"), ("java/lang/IllegalArgumentException", "java/util/NoSuchElementException"), ("java/lang/IllegalStateException", "java/util/NoSuchElementException"), ("java/lang/UnsupportedOperationException", "java/util/NoSuchElementException"), ("java/lang/IndexOutOfBoundsException", "java/util/NoSuchElementException"), ("java/lang/ArithmeticException", "java/util/NoSuchElementException"), ("java/lang/IllegalArgumentException", "java/lang/ArithmeticException"), ("java/lang/IllegalStateException", "java/lang/ArithmeticException"), ("java/lang/UnsupportedOperationException", "java/lang/ArithmeticException"), ("java/util/NoSuchElementException", "java/lang/ArithmeticException"), ("java/lang/IndexOutOfBoundsException", "java/lang/ArithmeticException")]
/-- what lies below the base and stays: statics, the script, texts, and words that the tables alone decide -/
def SF (g : GP) (s : State) : Prop :=
  (va_Z "java/util/ArrayList" "DEFAULTCAPACITY_EMPTY_ELEMENTDATA" "[Ljava/lang/Object;" (.ref (g_s g 1)) (fun q => g_b g ≤ q) s s.heap ∧ va_T (.object "java/lang/Object") (g_s g 1) 0 (fun _ => .null) (fun q => g_b g ≤ q) s s.heap) ∧
  va_Z "java/lang/String" "COMPACT_STRINGS" "Z" (.int 1) (fun q => g_b g ≤ q) s s.heap ∧
  va_Mi "[Ljava/lang/Object;" (g_s g 4) s ∧
  (vx_Zq Bundle.tN "UNASSIGNED_STACK" Bundle.steD (fun q => g_b g ≤ q) s s.heap ∧ vx_Zq Bundle.tN "SUPPRESSED_SENTINEL" Bundle.listD (fun q => g_b g ≤ q) s s.heap) ∧
  (∀ q ∈ z_str, ∃ a, vk_R RX3 q.1 q.2 a s) ∧
  (va_X (g_s g 5) (g_l g) (g_x g) s s.heap ∧ g_s g 5 < g_b g ∧ g_s g 1 < g_b g) ∧
  (∀ q ∈ z_cast, va_Nw (.castable q.1 q.2) s) ∧ (∀ q ∈ z_ncast, va_Nc q.1 q.2 s) ∧ va_AO "java/lang/Object" s
theorem SF.moved {g : GP} {u U : State} (hW : u.WarmedH U.vm) (hh : ∀ q : Nat, q < g_b g → U.heap[q]? = u.heap[q]?) (F : SF g u) : SF g U := by
  obtain ⟨⟨f1, f2⟩, f3, f4, ⟨f5, f6⟩, f7, ⟨f8, f9, f9'⟩, f10, f11, f12⟩ := F
  have hA : ∀ q : Nat, q < u.heap.size → ¬ (g_b g ≤ q) → U.heap[q]? = u.heap[q]? := fun q _ h2 => hh q (by omega)
  refine ⟨⟨(va_Z.moved hW.alike f1).kept hA, (va_T.moved hW.alike f2).kept hA⟩, (va_Z.moved hW.alike f3).kept hA, va_Mi.moved hW.alike f4, ⟨(vx_Zq.moved hW.alike f5).kept hA, (vx_Zq.moved hW.alike f6).kept hA⟩, fun q hq => ?_, ⟨(va_X.moved hW.alike f8).kept (hh _ f9), f9, f9'⟩, fun q hq => va_Nw.warmC hW (f10 q hq), fun q hq => va_Nc.moved hW.alike (f11 q hq), va_AO.moved hW.alike f12⟩
  obtain ⟨a, ha⟩ := f7 q hq
  exact ⟨a, vk_R.warm hW ha⟩
def LH (g : GP) (ls : Array Slot) (nL : Nat) (l : List AV) : Prop := ls.size = nL ∧ lv_wf ls ∧ l.length = nL ∧ ∀ (i : Nat) (v : AV), l[i]? = some v → v ≠ xU → ls[i]? = some (.val (cv g v))
def Cx (g : GP) (m : MT) (d : Nat) (p : Program) (lch : Launch) (R : Room) (s : State) (mi : MethodId) (args : Array Value) (meth : Method) (c : Code) : Prop :=
  p.tables.exec = Jvm.exec ∧ c.code = m.2.1 ∧ c.maxLocals = m.2.2.1 ∧ s.vm.findClass m.1.cls = some mi.cls ∧ (∀ w ∈ GW, w.before args s = true) ∧ va_K (g_D g) vwCl (g_t g) s ∧
  meth.sig.returnType = m.2.2.2.1 ∧ meth.name = m.1.name ∧ meth.locks = false ∧ lch.stackTraces = false ∧
  (d ≤ R.frames ∧ 100 * d ≤ R.locals ∧ R.cells = z_CC - (s.heap.size - g_b g) ∧ R.slots = z_CS - z_s (g_b g) s.heap) ∧ g_b g ≤ s.heap.size ∧ SF g s ∧ c.exceptionTable.toList = tableOf m.2.2.2.2
def QcV (g : GP) (Q : Res → AH → Prop) : Array Value → State → Outcome → State → Prop := fun _ st o t => (∃ (v : Option AV) (h' : AH), o = .returned (v.map (cv g)) ∧ Rp g h' t.heap ∧ Q (.inl v) h') ∧ va_F (fun q => g_b g ≤ q) st t
def XCV (g : GP) (Q : Res → AH → Prop) : String → State → State → Prop := fun E st t => (∃ h' : AH, Rp g h' t.heap ∧ Q (.inr E) h') ∧ va_F (fun q => g_b g ≤ q) st t
def EV (g : GP) (Q : Res → AH → Prop) (R : Room) (below : List Frame) (args : Array Value) (s : State) : State → Prop := vx_MQ below (QcV g Q) (XCV g Q) args s R.cells R.slots (fun q => g_b g ≤ q)
def V (g : GP) (m : MT) (d : Nat) (Q : Res → AH → Prop) (h : AH) (pc : Nat) (lc st : List AV) : Prop :=
  ∀ (p : Program) (lch : Launch) (e : Env) (R : Room) (s : State) (mi : MethodId) (args : Array Value) (below : List Frame) (meth : Method) (c : Code) (H : Heap) (locs : List Loc) (cells slots : Nat) (ls : Array Slot),
    Cx g m d p lch R s mi args meth c → Rp g h H → va_S (fun q => g_b g ≤ q) s.heap H locs → LH g ls m.2.2.1 lc →
    W p lch e R s mi args below meth c H locs cells slots (EV g Q R below args s) (F0 mi pc ls (st.map (cv g)))
theorem i32_i {z : Int} (h : -2147483648 ≤ z ∧ z ≤ 2147483647) : (Int32.ofInt z).toInt = z := Int32.toInt_ofInt_of_le (by omega) (by omega)
theorem i32_lt {x y : Int} (hx : -2147483648 ≤ x ∧ x ≤ 2147483647) (hy : -2147483648 ≤ y ∧ y ≤ 2147483647) : Int32.ofInt x < Int32.ofInt y ↔ x < y := by
  rw [Int32.lt_iff_toInt_lt, i32_i hx, i32_i hy]
theorem i32_le {x y : Int} (hx : -2147483648 ≤ x ∧ x ≤ 2147483647) (hy : -2147483648 ≤ y ∧ y ≤ 2147483647) : Int32.ofInt x ≤ Int32.ofInt y ↔ x ≤ y := by
  rw [Int32.le_iff_toInt_le, i32_i hx, i32_i hy]
theorem i32_eq {x y : Int} (hx : -2147483648 ≤ x ∧ x ≤ 2147483647) (hy : -2147483648 ≤ y ∧ y ≤ 2147483647) : Int32.ofInt x = Int32.ofInt y ↔ x = y := by
  rw [← Int32.toInt_inj, i32_i hx, i32_i hy]
theorem i32_0 : (0 : Int32) = Int32.ofInt 0 := by decide
theorem i32_n {j : Nat} (h : j < 2147483648) : (Int32.ofInt (j : Int)).toNatClampNeg = j := by
  show (Int32.ofInt (j : Int)).toInt.toNat = j
  rw [i32_i (by omega)]
  omega
theorem i32_in {z : Int} {j n : Nat} (hz : z = (j : Int)) (hn : j < n) (hb : n ≤ 2147483647) : vp_in (Int32.ofInt z) n ∧ (Int32.ofInt z).toNatClampNeg = j := by
  subst hz
  refine ⟨?_, i32_n (by omega)⟩
  unfold vp_in
  rw [i32_n (by omega), i32_0, i32_lt (by omega) (by omega)]
  omega
/-- storing in the locals: a wide value's second half, and a wide value that is cut, are unknown then -/
def st1 (l : List AV) (i : Nat) (v : AV) : List AV := (match i with
  | 0 => l
  | k + 1 => match l[k]? with
    | some (.inr (.inr w)) => if w.category = 2 then l.set k xU else l
    | _ => l).set i v
def lh_pl (g : GP) (l : List AV) : List (Nat × Value) := (List.range l.length).filterMap (fun i => match l[i]? with
  | some v => if v = xU then none else some (i, cv g v)
  | none => none)
theorem lh_mem {g : GP} {l : List AV} {i : Nat} {v : AV} (h : l[i]? = some v) (hv : v ≠ xU) : (i, cv g v) ∈ lh_pl g l := by
  refine List.mem_filterMap.mpr ⟨i, List.mem_range.mpr (List.getElem?_eq_some_iff.mp h).1, ?_⟩
  simp [h, hv]
theorem LH.has {g : GP} {ls : Array Slot} {nL : Nat} {l : List AV} (L : LH g ls nL l) : lv_has ls nL (lh_pl g l) := by
  refine ⟨L.1, L.2.1, fun q hq => ?_⟩
  obtain ⟨i, hi, h⟩ := List.mem_filterMap.mp hq
  cases hl : l[i]? with
  | none => simp [hl] at h
  | some v =>
    simp only [hl] at h
    by_cases hv : v = xU
    · simp [hv] at h
    · rw [if_neg hv] at h
      cases h
      exact L.2.2.2 i v hl hv
theorem cv_cat {g : GP} {v : AV} (h : (cv g v).category = 2) : ∃ w, v = .inr (.inr w) ∧ w.category = 2 := by
  match v with
  | .inl z => cases h
  | .inr (.inl n) =>
    simp only [cv, rv] at h
    split at h <;> cases h
  | .inr (.inr w) => exact ⟨w, rfl, h⟩
theorem st1_len {l : List AV} {i : Nat} {v : AV} : (st1 l i v).length = l.length := by
  unfold st1
  split
  · simp
  · split
    · split <;> simp
    · simp
theorem st1_get {l : List AV} {i j : Nat} {v w : AV} (h : (st1 l i v)[j]? = some w) (hw : w ≠ xU) : (j = i ∧ w = v) ∨ (j ≠ i ∧ l[j]? = some w ∧ ¬ (j + 1 = i ∧ ∃ x, w = .inr (.inr x) ∧ x.category = 2)) := by
  unfold st1 at h
  by_cases e : j = i
  · subst e
    rw [List.getElem?_set_self'] at h
    left
    refine ⟨rfl, ?_⟩
    revert h
    generalize (match j with
      | 0 => l
      | k + 1 => match l[k]? with
        | some (.inr (.inr w)) => if w.category = 2 then l.set k xU else l
        | _ => l)[j]? = z
    intro h
    cases z with
    | none => cases h
    | some z => exact (Option.some.inj h).symm
  · rw [List.getElem?_set_ne (Ne.symm e)] at h
    right
    refine ⟨e, ?_⟩
    match i, h with
    | 0, h => exact ⟨h, fun q => by omega⟩
    | k + 1, h =>
      dsimp only at h
      split at h
      · rename_i x hx
        by_cases hc : x.category = 2
        · rw [if_pos hc] at h
          by_cases ek : j = k
          · subst ek
            rw [List.getElem?_set_self'] at h
            cases hz : l[j]? with
            | none => rw [hz] at h; cases h
            | some z => rw [hz] at h; exact absurd (Option.some.inj h).symm hw
          · rw [List.getElem?_set_ne (Ne.symm ek)] at h
            exact ⟨h, fun q => ek (by omega)⟩
        · rw [if_neg hc] at h
          refine ⟨h, fun q => ?_⟩
          obtain ⟨q1, y, q2, q3⟩ := q
          have : j = k := by omega
          subst this
          rw [h, q2] at hx
          cases hx
          exact hc q3
      · rename_i hx
        refine ⟨h, fun q => ?_⟩
        obtain ⟨q1, y, q2, q3⟩ := q
        have : j = k := by omega
        subst this
        rw [q2] at h
        exact hx y h
theorem LHst1 {g : GP} {ls ls' : Array Slot} {nL i : Nat} {l l' : List AV} {v : AV} (L : LH g ls nL l) (hl : st1 l i v = l') (h : lv_has ls' nL ((i, cv g v) :: (lh_pl g l).filter (fun q => !(q.1 == i) && !(q.1 + 1 == i && q.2.category == 2)))) : LH g ls' nL l' := by
  subst hl
  refine ⟨h.1, h.2.1, by rw [st1_len]; exact L.2.2.1, fun j w hj hw => ?_⟩
  rcases st1_get hj hw with ⟨e1, e2⟩ | ⟨e1, e2, e3⟩
  · subst e1; subst e2
    exact h.2.2 _ List.mem_cons_self
  · refine h.2.2 (j, cv g w) (List.mem_cons_of_mem _ (List.mem_filter.mpr ⟨lh_mem e2 hw, ?_⟩))
    simp only [Bool.and_eq_true, Bool.not_eq_true', beq_eq_false_iff_ne, ne_eq, Bool.and_eq_false_iff]
    refine ⟨e1, ?_⟩
    by_cases q : j + 1 = i
    · right
      intro q2
      obtain ⟨x, r1, r2⟩ := cv_cat q2
      exact e3 ⟨q, x, r1, r2⟩
    · exact Or.inl q
/-- storing a wide value -/
def st2 (l : List AV) (i : Nat) (v : AV) : List AV := (st1 l i v).set (i + 1) xU
theorem LHst2 {g : GP} {ls ls' : Array Slot} {nL i : Nat} {l l' : List AV} {v : AV} (L : LH g ls nL l) (hl : st2 l i v = l') (h : lv_has ls' nL ((i, cv g v) :: (lh_pl g l).filter (fun q => !(q.1 == i) && (!(q.1 == i + 1) && !(q.1 + 1 == i && q.2.category == 2))))) : LH g ls' nL l' := by
  subst hl
  refine ⟨h.1, h.2.1, by show ((List.set _ _ _)).length = _; rw [List.length_set, st1_len]; exact L.2.2.1, fun j w hj hw => ?_⟩
  by_cases ej : j = i + 1
  · subst ej
    have hj : ((st1 l i v).set (i + 1) xU)[i + 1]? = some w := hj
    rw [List.getElem?_set_self'] at hj
    cases hz : (st1 l i v)[i + 1]? with
    | none => rw [hz] at hj; cases hj
    | some z => rw [hz] at hj; exact absurd (Option.some.inj hj).symm hw
  · have hj : ((st1 l i v).set (i + 1) xU)[j]? = some w := hj
    rw [List.getElem?_set_ne (Ne.symm ej)] at hj
    rcases st1_get hj hw with ⟨e1, e2⟩ | ⟨e1, e2, e3⟩
    · subst e1; subst e2
      exact h.2.2 _ List.mem_cons_self
    · refine h.2.2 (j, cv g w) (List.mem_cons_of_mem _ (List.mem_filter.mpr ⟨lh_mem e2 hw, ?_⟩))
      simp only [Bool.and_eq_true, Bool.not_eq_true', beq_eq_false_iff_ne, ne_eq, Bool.and_eq_false_iff]
      refine ⟨e1, ej, ?_⟩
      by_cases q : j + 1 = i
      · right
        intro q2
        obtain ⟨x, r1, r2⟩ := cv_cat q2
        exact e3 ⟨q, x, r1, r2⟩
      · exact Or.inl q
section V1
variable {g : GP} {m : MT} {d : Nat} {Q : Res → AH → Prop} {h : AH} {pc : Nat} {lc lc' st : List AV}

theorem V_iconst {n : Int} (hd : decode m.2.1 pc = .ok (.iconst n, 1)) (k : V g m d Q h (pc + 1) lc (xI n :: st)) : V g m d Q h pc lc (st) := by
  intro p lch e R s mi args below meth c H locs cells slots ls C P S L
  exact lv_iconst C.1 C.2.1 hd rfl (k p lch e R s mi args below meth c H locs cells slots ls C P S L)
theorem V_bipush {n : Int} (hd : decode m.2.1 pc = .ok (.bipush n, 2)) (hv : (Int8.ofInt n).toInt32 = Int32.ofInt n := by decide) (k : V g m d Q h (pc + 2) lc (xI n :: st)) : V g m d Q h pc lc (st) := by
  intro p lch e R s mi args below meth c H locs cells slots ls C P S L
  exact lv_bipush C.1 C.2.1 hd hv (k p lch e R s mi args below meth c H locs cells slots ls C P S L)
theorem V_sipush {n : Int} (hd : decode m.2.1 pc = .ok (.sipush n, 3)) (hv : (Int16.ofInt n).toInt32 = Int32.ofInt n := by decide) (k : V g m d Q h (pc + 3) lc (xI n :: st)) : V g m d Q h pc lc (st) := by
  intro p lch e R s mi args below meth c H locs cells slots ls C P S L
  exact lv_sipush C.1 C.2.1 hd hv (k p lch e R s mi args below meth c H locs cells slots ls C P S L)
theorem V_lconst {n : Fin 2} {v : Int64} (hd : decode m.2.1 pc = .ok (.lconst n, 1)) (hv : Int64.ofNat n.val = v) (k : V g m d Q h (pc + 1) lc (xV (.long v) :: st)) : V g m d Q h pc lc (st) := by
  intro p lch e R s mi args below meth c H locs cells slots ls C P S L
  exact lv_lconst C.1 C.2.1 hd hv (k p lch e R s mi args below meth c H locs cells slots ls C P S L)
theorem V_fconst0 (hd : decode m.2.1 pc = .ok (.fconst 0, 1)) (k : V g m d Q h (pc + 1) lc (xV (.float 0) :: st)) : V g m d Q h pc lc (st) := by
  intro p lch e R s mi args below meth c H locs cells slots ls C P S L
  exact lv_fconst0 C.1 C.2.1 hd (k p lch e R s mi args below meth c H locs cells slots ls C P S L)
theorem V_dconst0 (hd : decode m.2.1 pc = .ok (.dconst 0, 1)) (k : V g m d Q h (pc + 1) lc (xV (.double 0) :: st)) : V g m d Q h pc lc (st) := by
  intro p lch e R s mi args below meth c H locs cells slots ls C P S L
  exact lv_dconst0 C.1 C.2.1 hd (k p lch e R s mi args below meth c H locs cells slots ls C P S L)
theorem V_null (hd : decode m.2.1 pc = .ok (.aconst_null, 1)) (k : V g m d Q h (pc + 1) lc (xR 0 :: st)) : V g m d Q h pc lc (st) := by
  intro p lch e R s mi args below meth c H locs cells slots ls C P S L
  exact lv_null C.1 C.2.1 hd (k p lch e R s mi args below meth c H locs cells slots ls C P S L)
theorem V_iload_n {i : Fin 4} {z : Int} (hd : decode m.2.1 pc = .ok (.iload_n i, 1)) (hl : lc[(i : Nat)]? = some (xI z)) (k : V g m d Q h (pc + 1) lc (xI z :: st)) : V g m d Q h pc lc (st) := by
  intro p lch e R s mi args below meth c H locs cells slots ls C P S L
  exact lv_iload_n C.1 C.2.1 hd rfl (L.2.2.2 _ _ hl (by intro q; cases q)) (k p lch e R s mi args below meth c H locs cells slots ls C P S L)
theorem V_iload {i : Nat} {z : Int} (hd : decode m.2.1 pc = .ok (.iload i, 2)) (hl : lc[i]? = some (xI z)) (k : V g m d Q h (pc + 2) lc (xI z :: st)) : V g m d Q h pc lc (st) := by
  intro p lch e R s mi args below meth c H locs cells slots ls C P S L
  exact lv_iload C.1 C.2.1 hd (L.2.2.2 _ _ hl (by intro q; cases q)) (k p lch e R s mi args below meth c H locs cells slots ls C P S L)
theorem V_fload_n {i : Fin 4} {z : UInt32} (hd : decode m.2.1 pc = .ok (.fload_n i, 1)) (hl : lc[(i : Nat)]? = some (xV (.float z))) (k : V g m d Q h (pc + 1) lc (xV (.float z) :: st)) : V g m d Q h pc lc (st) := by
  intro p lch e R s mi args below meth c H locs cells slots ls C P S L
  exact lv_fload_n C.1 C.2.1 hd rfl (L.2.2.2 _ _ hl (by intro q; cases q)) (k p lch e R s mi args below meth c H locs cells slots ls C P S L)
theorem V_fload {i : Nat} {z : UInt32} (hd : decode m.2.1 pc = .ok (.fload i, 2)) (hl : lc[i]? = some (xV (.float z))) (k : V g m d Q h (pc + 2) lc (xV (.float z) :: st)) : V g m d Q h pc lc (st) := by
  intro p lch e R s mi args below meth c H locs cells slots ls C P S L
  exact lv_fload C.1 C.2.1 hd (L.2.2.2 _ _ hl (by intro q; cases q)) (k p lch e R s mi args below meth c H locs cells slots ls C P S L)
theorem V_dload_n {i : Fin 4} {z : UInt64} (hd : decode m.2.1 pc = .ok (.dload_n i, 1)) (hl : lc[(i : Nat)]? = some (xV (.double z))) (k : V g m d Q h (pc + 1) lc (xV (.double z) :: st)) : V g m d Q h pc lc (st) := by
  intro p lch e R s mi args below meth c H locs cells slots ls C P S L
  exact lv_dload_n C.1 C.2.1 hd rfl (L.2.2.2 _ _ hl (by intro q; cases q)) (k p lch e R s mi args below meth c H locs cells slots ls C P S L)
theorem V_dload {i : Nat} {z : UInt64} (hd : decode m.2.1 pc = .ok (.dload i, 2)) (hl : lc[i]? = some (xV (.double z))) (k : V g m d Q h (pc + 2) lc (xV (.double z) :: st)) : V g m d Q h pc lc (st) := by
  intro p lch e R s mi args below meth c H locs cells slots ls C P S L
  exact lv_dload C.1 C.2.1 hd (L.2.2.2 _ _ hl (by intro q; cases q)) (k p lch e R s mi args below meth c H locs cells slots ls C P S L)
theorem V_lload_n {i : Fin 4} {z : Int64} (hd : decode m.2.1 pc = .ok (.lload_n i, 1)) (hl : lc[(i : Nat)]? = some (xV (.long z))) (k : V g m d Q h (pc + 1) lc (xV (.long z) :: st)) : V g m d Q h pc lc (st) := by
  intro p lch e R s mi args below meth c H locs cells slots ls C P S L
  exact lv_lload_n C.1 C.2.1 hd rfl (L.2.2.2 _ _ hl (by intro q; cases q)) (k p lch e R s mi args below meth c H locs cells slots ls C P S L)
theorem V_lload {i : Nat} {z : Int64} (hd : decode m.2.1 pc = .ok (.lload i, 2)) (hl : lc[i]? = some (xV (.long z))) (k : V g m d Q h (pc + 2) lc (xV (.long z) :: st)) : V g m d Q h pc lc (st) := by
  intro p lch e R s mi args below meth c H locs cells slots ls C P S L
  exact lv_lload C.1 C.2.1 hd (L.2.2.2 _ _ hl (by intro q; cases q)) (k p lch e R s mi args below meth c H locs cells slots ls C P S L)
theorem V_aload_n {i : Fin 4} {a : Nat} (hd : decode m.2.1 pc = .ok (.aload_n i, 1)) (hl : lc[(i : Nat)]? = some (xR a)) (k : V g m d Q h (pc + 1) lc (xR a :: st)) : V g m d Q h pc lc st := by
  intro p lch e R s mi args below meth c H locs cells slots ls C P S L
  have hL := L.2.2.2 _ _ hl (by intro q; cases q)
  have kk := (k p lch e R s mi args below meth c H locs cells slots ls C P S L)
  simp only [List.map_cons] at kk
  change ls[_]? = some (Slot.val (rv g a)) at hL
  change W _ _ _ _ _ _ _ _ _ _ _ _ _ _ _ (F0 _ _ _ (rv g a :: _)) at kk
  by_cases ha : a = 0
  · rw [ha, rv_0] at hL kk
    exact lv_aload_nN C.1 C.2.1 hd rfl hL kk
  · rw [rv_pos ha] at hL kk
    exact lv_aload_n C.1 C.2.1 hd rfl hL kk
theorem V_aload {i : Nat} {a : Nat} (hd : decode m.2.1 pc = .ok (.aload i, 2)) (hl : lc[i]? = some (xR a)) (k : V g m d Q h (pc + 2) lc (xR a :: st)) : V g m d Q h pc lc st := by
  intro p lch e R s mi args below meth c H locs cells slots ls C P S L
  have hL := L.2.2.2 _ _ hl (by intro q; cases q)
  have kk := (k p lch e R s mi args below meth c H locs cells slots ls C P S L)
  simp only [List.map_cons] at kk
  change ls[_]? = some (Slot.val (rv g a)) at hL
  change W _ _ _ _ _ _ _ _ _ _ _ _ _ _ _ (F0 _ _ _ (rv g a :: _)) at kk
  by_cases ha : a = 0
  · rw [ha, rv_0] at hL kk
    exact lv_aloadN C.1 C.2.1 hd hL kk
  · rw [rv_pos ha] at hL kk
    exact lv_aload C.1 C.2.1 hd hL kk
theorem V_istore_n {i : Fin 4} {z : Int} (hd : decode m.2.1 pc = .ok (.istore_n i, 1)) (hn : (i : Nat) < m.2.2.1) (hl : st1 lc (i : Nat) (xI z) = lc') (k : V g m d Q h (pc + 1) lc' st) : V g m d Q h pc lc (xI z :: st) := by
  intro p lch e R s mi args below meth c H locs cells slots ls C P S L
  exact lv_istore_n C.1 C.2.1 hd rfl L.has hn rfl (fun ls' hl' => k p lch e R s mi args below meth c H locs cells slots ls' C P S (LHst1 L hl hl'))
theorem V_istore {i : Nat} {z : Int} (hd : decode m.2.1 pc = .ok (.istore i, 2)) (hn : i < m.2.2.1) (hl : st1 lc i (xI z) = lc') (k : V g m d Q h (pc + 2) lc' st) : V g m d Q h pc lc (xI z :: st) := by
  intro p lch e R s mi args below meth c H locs cells slots ls C P S L
  exact lv_istore C.1 C.2.1 hd L.has hn rfl (fun ls' hl' => k p lch e R s mi args below meth c H locs cells slots ls' C P S (LHst1 L hl hl'))
theorem V_astore_n {i : Fin 4} {a : Nat} (hd : decode m.2.1 pc = .ok (.astore_n i, 1)) (hn : (i : Nat) < m.2.2.1) (hl : st1 lc (i : Nat) (xR a) = lc') (k : V g m d Q h (pc + 1) lc' st) : V g m d Q h pc lc (xR a :: st) := by
  intro p lch e R s mi args below meth c H locs cells slots ls C P S L
  have K2 : ∀ ls', lv_has ls' m.2.2.1 (((i : Nat), cv g (xR a)) :: (lh_pl g lc).filter (fun q => !(q.1 == (i : Nat)) && !(q.1 + 1 == (i : Nat) && q.2.category == 2))) → W p lch e R s mi args below meth c H locs cells slots (EV g Q R below args s) (F0 mi (pc + 1) ls' (st.map (cv g))) := fun ls' hl' => k p lch e R s mi args below meth c H locs cells slots ls' C P S (LHst1 L hl hl')
  change ∀ ls', lv_has ls' m.2.2.1 (((i : Nat), rv g a) :: _) → _ at K2
  change W _ _ _ _ _ _ _ _ _ _ _ _ _ _ _ (F0 _ _ _ (rv g a :: _))
  by_cases ha : a = 0
  · rw [ha, rv_0] at K2 ⊢
    exact lv_astore_nN C.1 C.2.1 hd rfl L.has hn rfl K2
  · rw [rv_pos ha] at K2 ⊢
    exact lv_astore_n C.1 C.2.1 hd rfl L.has hn rfl K2
theorem V_astore_nX {i : Fin 4} {a : Nat} (hd : decode m.2.1 pc = .ok (.astore_n i, 1)) (hn : (i : Nat) < m.2.2.1) (hl : st1 lc (i : Nat) (xV (.ref a)) = lc') (k : V g m d Q h (pc + 1) lc' st) : V g m d Q h pc lc (xV (.ref a) :: st) := by
  intro p lch e R s mi args below meth c H locs cells slots ls C P S L
  exact lv_astore_n C.1 C.2.1 hd rfl L.has hn rfl (fun ls' hl' => k p lch e R s mi args below meth c H locs cells slots ls' C P S (LHst1 L hl hl'))
theorem V_astore {i : Nat} {a : Nat} (hd : decode m.2.1 pc = .ok (.astore i, 2)) (hn : i < m.2.2.1) (hl : st1 lc i (xR a) = lc') (k : V g m d Q h (pc + 2) lc' st) : V g m d Q h pc lc (xR a :: st) := by
  intro p lch e R s mi args below meth c H locs cells slots ls C P S L
  have K2 : ∀ ls', lv_has ls' m.2.2.1 ((i, cv g (xR a)) :: (lh_pl g lc).filter (fun q => !(q.1 == i) && !(q.1 + 1 == i && q.2.category == 2))) → W p lch e R s mi args below meth c H locs cells slots (EV g Q R below args s) (F0 mi (pc + 2) ls' (st.map (cv g))) := fun ls' hl' => k p lch e R s mi args below meth c H locs cells slots ls' C P S (LHst1 L hl hl')
  change ∀ ls', lv_has ls' m.2.2.1 ((i, rv g a) :: _) → _ at K2
  change W _ _ _ _ _ _ _ _ _ _ _ _ _ _ _ (F0 _ _ _ (rv g a :: _))
  by_cases ha : a = 0
  · rw [ha, rv_0] at K2 ⊢
    exact lv_astoreN C.1 C.2.1 hd L.has hn rfl K2
  · rw [rv_pos ha] at K2 ⊢
    exact lv_astore C.1 C.2.1 hd L.has hn rfl K2
theorem V_astoreX {i : Nat} {a : Nat} (hd : decode m.2.1 pc = .ok (.astore i, 2)) (hn : i < m.2.2.1) (hl : st1 lc i (xV (.ref a)) = lc') (k : V g m d Q h (pc + 2) lc' st) : V g m d Q h pc lc (xV (.ref a) :: st) := by
  intro p lch e R s mi args below meth c H locs cells slots ls C P S L
  exact lv_astore C.1 C.2.1 hd L.has hn rfl (fun ls' hl' => k p lch e R s mi args below meth c H locs cells slots ls' C P S (LHst1 L hl hl'))
theorem V_fstore_n {i : Fin 4} {z : UInt32} (hd : decode m.2.1 pc = .ok (.fstore_n i, 1)) (hn : (i : Nat) < m.2.2.1) (hl : st1 lc (i : Nat) (xV (.float z)) = lc') (k : V g m d Q h (pc + 1) lc' st) : V g m d Q h pc lc (xV (.float z) :: st) := by
  intro p lch e R s mi args below meth c H locs cells slots ls C P S L
  exact lv_fstore_n C.1 C.2.1 hd rfl L.has hn rfl (fun ls' hl' => k p lch e R s mi args below meth c H locs cells slots ls' C P S (LHst1 L hl hl'))
theorem V_fstore {i : Nat} {z : UInt32} (hd : decode m.2.1 pc = .ok (.fstore i, 2)) (hn : i < m.2.2.1) (hl : st1 lc i (xV (.float z)) = lc') (k : V g m d Q h (pc + 2) lc' st) : V g m d Q h pc lc (xV (.float z) :: st) := by
  intro p lch e R s mi args below meth c H locs cells slots ls C P S L
  exact lv_fstore C.1 C.2.1 hd L.has hn rfl (fun ls' hl' => k p lch e R s mi args below meth c H locs cells slots ls' C P S (LHst1 L hl hl'))
theorem V_dstore_n {i : Fin 4} {z : UInt64} (hd : decode m.2.1 pc = .ok (.dstore_n i, 1)) (hn : (i : Nat) + 1 < m.2.2.1) (hl : st2 lc (i : Nat) (xV (.double z)) = lc') (k : V g m d Q h (pc + 1) lc' st) : V g m d Q h pc lc (xV (.double z) :: st) := by
  intro p lch e R s mi args below meth c H locs cells slots ls C P S L
  exact lv_dstore_n C.1 C.2.1 hd rfl L.has hn rfl (fun ls' hl' => k p lch e R s mi args below meth c H locs cells slots ls' C P S (LHst2 L hl hl'))
theorem V_dstore {i : Nat} {z : UInt64} (hd : decode m.2.1 pc = .ok (.dstore i, 2)) (hn : i + 1 < m.2.2.1) (hl : st2 lc i (xV (.double z)) = lc') (k : V g m d Q h (pc + 2) lc' st) : V g m d Q h pc lc (xV (.double z) :: st) := by
  intro p lch e R s mi args below meth c H locs cells slots ls C P S L
  exact lv_dstore C.1 C.2.1 hd L.has hn rfl (fun ls' hl' => k p lch e R s mi args below meth c H locs cells slots ls' C P S (LHst2 L hl hl'))
theorem V_lstore_n {i : Fin 4} {z : Int64} (hd : decode m.2.1 pc = .ok (.lstore_n i, 1)) (hn : (i : Nat) + 1 < m.2.2.1) (hl : st2 lc (i : Nat) (xV (.long z)) = lc') (k : V g m d Q h (pc + 1) lc' st) : V g m d Q h pc lc (xV (.long z) :: st) := by
  intro p lch e R s mi args below meth c H locs cells slots ls C P S L
  exact lv_lstore_n C.1 C.2.1 hd rfl L.has hn rfl (fun ls' hl' => k p lch e R s mi args below meth c H locs cells slots ls' C P S (LHst2 L hl hl'))
theorem V_lstore {i : Nat} {z : Int64} (hd : decode m.2.1 pc = .ok (.lstore i, 2)) (hn : i + 1 < m.2.2.1) (hl : st2 lc i (xV (.long z)) = lc') (k : V g m d Q h (pc + 2) lc' st) : V g m d Q h pc lc (xV (.long z) :: st) := by
  intro p lch e R s mi args below meth c H locs cells slots ls C P S L
  exact lv_lstore C.1 C.2.1 hd L.has hn rfl (fun ls' hl' => k p lch e R s mi args below meth c H locs cells slots ls' C P S (LHst2 L hl hl'))
theorem V_iinc {i : Nat} {n z : Int} (hd : decode m.2.1 pc = .ok (.iinc i n, 3)) (hg : lc[i]? = some (xI z)) (hn : i < m.2.2.1) (hl : st1 lc i (xI (z + n)) = lc') (k : V g m d Q h (pc + 3) lc' st) : V g m d Q h pc lc st := by
  intro p lch e R s mi args below meth c H locs cells slots ls C P S L
  obtain ⟨q, hq⟩ := List.getElem?_of_mem (lh_mem (g := g) hg (by intro q; cases q))
  exact lv_iinc C.1 C.2.1 hd L.has hq (Int32.ofInt_add z n).symm hn rfl (fun ls' hl' => k p lch e R s mi args below meth c H locs cells slots ls' C P S (LHst1 L hl hl'))
theorem V_iadd {x y : Int} (hd : decode m.2.1 pc = .ok (.iadd, 1)) (k : V g m d Q h (pc + 1) lc (xI (x + y) :: st)) : V g m d Q h pc lc (xI y :: xI x :: st) := by
  intro p lch e R s mi args below meth c H locs cells slots ls C P S L
  refine lv_iadd C.1 C.2.1 hd ?_
  have kk := (k p lch e R s mi args below meth c H locs cells slots ls C P S L)
  have e9 : cv g (xI (x + y)) = .int (Int32.ofInt x + Int32.ofInt y) := congrArg Value.int (by first | exact Int32.ofInt_add x y | exact Int32.ofInt_sub x y | exact Int32.ofInt_mul x y)
  rw [List.map_cons, e9] at kk
  exact kk
theorem V_isub {x y : Int} (hd : decode m.2.1 pc = .ok (.isub, 1)) (k : V g m d Q h (pc + 1) lc (xI (x - y) :: st)) : V g m d Q h pc lc (xI y :: xI x :: st) := by
  intro p lch e R s mi args below meth c H locs cells slots ls C P S L
  refine lv_isub C.1 C.2.1 hd ?_
  have kk := (k p lch e R s mi args below meth c H locs cells slots ls C P S L)
  have e9 : cv g (xI (x - y)) = .int (Int32.ofInt x - Int32.ofInt y) := congrArg Value.int (by first | exact Int32.ofInt_add x y | exact Int32.ofInt_sub x y | exact Int32.ofInt_mul x y)
  rw [List.map_cons, e9] at kk
  exact kk
theorem V_imul {x y : Int} (hd : decode m.2.1 pc = .ok (.imul, 1)) (k : V g m d Q h (pc + 1) lc (xI (x * y) :: st)) : V g m d Q h pc lc (xI y :: xI x :: st) := by
  intro p lch e R s mi args below meth c H locs cells slots ls C P S L
  refine lv_imul C.1 C.2.1 hd ?_
  have kk := (k p lch e R s mi args below meth c H locs cells slots ls C P S L)
  have e9 : cv g (xI (x * y)) = .int (Int32.ofInt x * Int32.ofInt y) := congrArg Value.int (by first | exact Int32.ofInt_add x y | exact Int32.ofInt_sub x y | exact Int32.ofInt_mul x y)
  rw [List.map_cons, e9] at kk
  exact kk
theorem V_ineg {x : Int} (hd : decode m.2.1 pc = .ok (.ineg, 1)) (k : V g m d Q h (pc + 1) lc (xI (-x) :: st)) : V g m d Q h pc lc (xI x :: st) := by
  intro p lch e R s mi args below meth c H locs cells slots ls C P S L
  refine lv_ineg C.1 C.2.1 hd ?_
  have kk := (k p lch e R s mi args below meth c H locs cells slots ls C P S L)
  rw [List.map_cons, show cv g (xI (-x)) = .int (-Int32.ofInt x) from congrArg Value.int (Int32.ofInt_neg x)] at kk
  exact kk
theorem i32_div {x y : Int} (hx : -2147483647 ≤ x ∧ x ≤ 2147483647) (hy : 0 < y ∧ y ≤ 2147483647) : Int32.ofInt x / Int32.ofInt y = Int32.ofInt (x.tdiv y) := by
  refine (Int32.ofInt_tdiv ?_ ?_ ?_ ?_).symm
  · show (-2147483648 : Int) ≤ x; omega
  · show x ≤ (2147483647 : Int); omega
  · show (-2147483648 : Int) ≤ y; omega
  · show y ≤ (2147483647 : Int); omega
theorem i32_ne0 {y : Int} (hy : 0 < y ∧ y ≤ 2147483647) : ¬ Int32.ofInt y = 0 := by
  rw [i32_0, i32_eq (by omega) (by omega)]
  omega
theorem V_idivT {x y : Int} (hd : decode m.2.1 pc = .ok (.idiv, 1)) (hx : -2147483647 ≤ x ∧ x ≤ 2147483647) (hy : 0 < y ∧ y ≤ 2147483647) (k : V g m d Q h (pc + 1) lc (xI (x.tdiv y) :: st)) : V g m d Q h pc lc (xI y :: xI x :: st) := by
  intro p lch e R s mi args below meth c H locs cells slots ls C P S L
  refine lv_idiv C.1 C.2.1 hd (i32_ne0 hy) ?_
  have kk := (k p lch e R s mi args below meth c H locs cells slots ls C P S L)
  rw [i32_div hx hy]
  exact kk
theorem V_idiv {x y : Int} (hd : decode m.2.1 pc = .ok (.idiv, 1)) (hx : 0 ≤ x ∧ x ≤ 2147483647) (hy : 0 < y ∧ y ≤ 2147483647) (k : V g m d Q h (pc + 1) lc (xI (x / y) :: st)) : V g m d Q h pc lc (xI y :: xI x :: st) := by
  refine V_idivT hd (by omega) hy ?_
  rw [Int.tdiv_eq_ediv_of_nonneg hx.1]
  exact k
theorem V_irem {x y : Int} (hd : decode m.2.1 pc = .ok (.irem, 1)) (hx : 0 ≤ x ∧ x ≤ 2147483647) (hy : 0 < y ∧ y ≤ 2147483647) (k : V g m d Q h (pc + 1) lc (xI (x % y) :: st)) : V g m d Q h pc lc (xI y :: xI x :: st) := by
  intro p lch e R s mi args below meth c H locs cells slots ls C P S L
  refine lv_irem C.1 C.2.1 hd (i32_ne0 hy) ?_
  have kk := (k p lch e R s mi args below meth c H locs cells slots ls C P S L)
  rw [List.map_cons, show cv g (xI (x % y)) = .int (Int32.ofInt x - Int32.ofInt x / Int32.ofInt y * Int32.ofInt y) from congrArg Value.int ?_] at kk
  · exact kk
  · rw [i32_div (by omega) hy, ← Int32.ofInt_mul, ← Int32.ofInt_sub, Int.tdiv_eq_ediv_of_nonneg hx.1]
    congr 1
    have := Int.emod_add_mul_ediv x y
    rw [Int.mul_comm] at this
    omega
theorem V_ishl {x y z : Int} (hd : decode m.2.1 pc = .ok (.ishl, 1)) (hz : Int32.ofInt x <<< (Int32.ofInt y &&& 31) = Int32.ofInt z) (k : V g m d Q h (pc + 1) lc (xI z :: st)) : V g m d Q h pc lc (xI y :: xI x :: st) := by
  intro p lch e R s mi args below meth c H locs cells slots ls C P S L
  refine lv_ishl C.1 C.2.1 hd ?_
  rw [hz]
  exact (k p lch e R s mi args below meth c H locs cells slots ls C P S L)
theorem V_ishr {x y z : Int} (hd : decode m.2.1 pc = .ok (.ishr, 1)) (hz : Int32.ofInt x >>> (Int32.ofInt y &&& 31) = Int32.ofInt z) (k : V g m d Q h (pc + 1) lc (xI z :: st)) : V g m d Q h pc lc (xI y :: xI x :: st) := by
  intro p lch e R s mi args below meth c H locs cells slots ls C P S L
  refine lv_ishr C.1 C.2.1 hd ?_
  rw [hz]
  exact (k p lch e R s mi args below meth c H locs cells slots ls C P S L)
theorem V_iand {x y z : Int} (hd : decode m.2.1 pc = .ok (.iand, 1)) (hz : Int32.ofInt x &&& Int32.ofInt y = Int32.ofInt z) (k : V g m d Q h (pc + 1) lc (xI z :: st)) : V g m d Q h pc lc (xI y :: xI x :: st) := by
  intro p lch e R s mi args below meth c H locs cells slots ls C P S L
  refine lv_iand C.1 C.2.1 hd ?_
  rw [hz]
  exact (k p lch e R s mi args below meth c H locs cells slots ls C P S L)
theorem V_ior {x y z : Int} (hd : decode m.2.1 pc = .ok (.ior, 1)) (hz : Int32.ofInt x ||| Int32.ofInt y = Int32.ofInt z) (k : V g m d Q h (pc + 1) lc (xI z :: st)) : V g m d Q h pc lc (xI y :: xI x :: st) := by
  intro p lch e R s mi args below meth c H locs cells slots ls C P S L
  refine lv_ior C.1 C.2.1 hd ?_
  rw [hz]
  exact (k p lch e R s mi args below meth c H locs cells slots ls C P S L)
theorem V_ixor {x y z : Int} (hd : decode m.2.1 pc = .ok (.ixor, 1)) (hz : Int32.ofInt x ^^^ Int32.ofInt y = Int32.ofInt z) (k : V g m d Q h (pc + 1) lc (xI z :: st)) : V g m d Q h pc lc (xI y :: xI x :: st) := by
  intro p lch e R s mi args below meth c H locs cells slots ls C P S L
  refine lv_ixor C.1 C.2.1 hd ?_
  rw [hz]
  exact (k p lch e R s mi args below meth c H locs cells slots ls C P S L)
theorem V_i2c {x z : Int} (hd : decode m.2.1 pc = .ok (.i2c, 1)) (hz : ((Int32.ofInt x).toUInt32 % 65536).toInt32 = Int32.ofInt z) (k : V g m d Q h (pc + 1) lc (xI z :: st)) : V g m d Q h pc lc (xI x :: st) := by
  intro p lch e R s mi args below meth c H locs cells slots ls C P S L
  exact lv_i2c C.1 C.2.1 hd hz (k p lch e R s mi args below meth c H locs cells slots ls C P S L)
theorem V_i2b {x z : Int} (hd : decode m.2.1 pc = .ok (.i2b, 1)) (hz : (Int32.ofInt x).toInt8.toInt32 = Int32.ofInt z) (k : V g m d Q h (pc + 1) lc (xI z :: st)) : V g m d Q h pc lc (xI x :: st) := by
  intro p lch e R s mi args below meth c H locs cells slots ls C P S L
  exact lv_i2b C.1 C.2.1 hd hz (k p lch e R s mi args below meth c H locs cells slots ls C P S L)
theorem V_pop {v : AV} (hd : decode m.2.1 pc = .ok (.pop, 1)) (hv : (cv g v).category = 1) (k : V g m d Q h (pc + 1) lc st) : V g m d Q h pc lc (v :: st) := by
  intro p lch e R s mi args below meth c H locs cells slots ls C P S L
  exact lv_pop C.1 C.2.1 hd hv (k p lch e R s mi args below meth c H locs cells slots ls C P S L)
theorem V_dup {v : AV} (hd : decode m.2.1 pc = .ok (.dup, 1)) (hv : (cv g v).category = 1) (k : V g m d Q h (pc + 1) lc (v :: v :: st)) : V g m d Q h pc lc (v :: st) := by
  intro p lch e R s mi args below meth c H locs cells slots ls C P S L
  exact lv_dup C.1 C.2.1 hd hv (k p lch e R s mi args below meth c H locs cells slots ls C P S L)
theorem V_dup_x1 {v w : AV} (hd : decode m.2.1 pc = .ok (.dup_x1, 1)) (hv : (cv g v).category = 1) (hw : (cv g w).category = 1) (k : V g m d Q h (pc + 1) lc (v :: w :: v :: st)) : V g m d Q h pc lc (v :: w :: st) := by
  intro p lch e R s mi args below meth c H locs cells slots ls C P S L
  exact lv_dup_x1 C.1 C.2.1 hd hv hw (k p lch e R s mi args below meth c H locs cells slots ls C P S L)
theorem V_dup2 {v w : AV} (hd : decode m.2.1 pc = .ok (.dup2, 1)) (hv : (cv g v).category = 1) (hw : (cv g w).category = 1) (k : V g m d Q h (pc + 1) lc (v :: w :: v :: w :: st)) : V g m d Q h pc lc (v :: w :: st) := by
  intro p lch e R s mi args below meth c H locs cells slots ls C P S L
  exact lv_dup2_11 C.1 C.2.1 hd hv hw (k p lch e R s mi args below meth c H locs cells slots ls C P S L)
theorem cat_R {n : Nat} : (cv g (xR n)).category = 1 := by
  show (rv g n).category = 1
  unfold rv
  split <;> rfl
theorem V_goto {off : Int} {tgt : Nat} (hd : decode m.2.1 pc = .ok (.goto off, 3)) (ht : (pc : Int) + off = (tgt : Int)) (k : V g m d Q h tgt lc st) : V g m d Q h pc lc st := by
  intro p lch e R s mi args below meth c H locs cells slots ls C P S L
  exact lv_goto C.1 C.2.1 hd ht (k p lch e R s mi args below meth c H locs cells slots ls C P S L)
theorem V_if_eq {x : Int} {off : Int} {tgt : Nat} (hd : decode m.2.1 pc = .ok (.ifCond .eq off, 3)) (ht : (pc : Int) + off = (tgt : Int)) (hx : -2147483648 ≤ x ∧ x ≤ 2147483647) (kt : x = 0 → V g m d Q h tgt lc st) (kf : x ≠ 0 → V g m d Q h (pc + 3) lc st) : V g m d Q h pc lc (xI x :: st) := by
  intro p lch e R s mi args below meth c H locs cells slots ls C P S L
  have e1 := @i32_eq x 0 hx (by omega)
  have e2 := @i32_lt x 0 hx (by omega)
  have e3 := @i32_lt 0 x (by omega) hx
  have e4 := @i32_le x 0 hx (by omega)
  have e5 := @i32_le 0 x (by omega) hx
  rw [← i32_0] at e1 e2 e3 e4 e5
  refine lv_if_eq C.1 C.2.1 hd ht (fun q => ?_) (fun q => ?_)
  · have q : x = 0 := by simp only [e1, e2, e3, e4, e5, ne_eq, ge_iff_le, gt_iff_lt] at q; omega
    exact (kt q p lch e R s mi args below meth c H locs cells slots ls C P S L)
  · have q : x ≠ 0 := by simp only [e1, e2, e3, e4, e5, ne_eq, ge_iff_le, gt_iff_lt] at q; omega
    exact (kf q p lch e R s mi args below meth c H locs cells slots ls C P S L)
theorem V_if_ne {x : Int} {off : Int} {tgt : Nat} (hd : decode m.2.1 pc = .ok (.ifCond .ne off, 3)) (ht : (pc : Int) + off = (tgt : Int)) (hx : -2147483648 ≤ x ∧ x ≤ 2147483647) (kt : x ≠ 0 → V g m d Q h tgt lc st) (kf : x = 0 → V g m d Q h (pc + 3) lc st) : V g m d Q h pc lc (xI x :: st) := by
  intro p lch e R s mi args below meth c H locs cells slots ls C P S L
  have e1 := @i32_eq x 0 hx (by omega)
  have e2 := @i32_lt x 0 hx (by omega)
  have e3 := @i32_lt 0 x (by omega) hx
  have e4 := @i32_le x 0 hx (by omega)
  have e5 := @i32_le 0 x (by omega) hx
  rw [← i32_0] at e1 e2 e3 e4 e5
  refine lv_if_ne C.1 C.2.1 hd ht (fun q => ?_) (fun q => ?_)
  · have q : x ≠ 0 := by simp only [e1, e2, e3, e4, e5, ne_eq, ge_iff_le, gt_iff_lt] at q; omega
    exact (kt q p lch e R s mi args below meth c H locs cells slots ls C P S L)
  · have q : x = 0 := by simp only [e1, e2, e3, e4, e5, ne_eq, ge_iff_le, gt_iff_lt] at q; omega
    exact (kf q p lch e R s mi args below meth c H locs cells slots ls C P S L)
theorem V_if_lt {x : Int} {off : Int} {tgt : Nat} (hd : decode m.2.1 pc = .ok (.ifCond .lt off, 3)) (ht : (pc : Int) + off = (tgt : Int)) (hx : -2147483648 ≤ x ∧ x ≤ 2147483647) (kt : x < 0 → V g m d Q h tgt lc st) (kf : 0 ≤ x → V g m d Q h (pc + 3) lc st) : V g m d Q h pc lc (xI x :: st) := by
  intro p lch e R s mi args below meth c H locs cells slots ls C P S L
  have e1 := @i32_eq x 0 hx (by omega)
  have e2 := @i32_lt x 0 hx (by omega)
  have e3 := @i32_lt 0 x (by omega) hx
  have e4 := @i32_le x 0 hx (by omega)
  have e5 := @i32_le 0 x (by omega) hx
  rw [← i32_0] at e1 e2 e3 e4 e5
  refine lv_if_lt C.1 C.2.1 hd ht (fun q => ?_) (fun q => ?_)
  · have q : x < 0 := by simp only [e1, e2, e3, e4, e5, ne_eq, ge_iff_le, gt_iff_lt] at q; omega
    exact (kt q p lch e R s mi args below meth c H locs cells slots ls C P S L)
  · have q : 0 ≤ x := by simp only [e1, e2, e3, e4, e5, ne_eq, ge_iff_le, gt_iff_lt] at q; omega
    exact (kf q p lch e R s mi args below meth c H locs cells slots ls C P S L)
theorem V_if_ge {x : Int} {off : Int} {tgt : Nat} (hd : decode m.2.1 pc = .ok (.ifCond .ge off, 3)) (ht : (pc : Int) + off = (tgt : Int)) (hx : -2147483648 ≤ x ∧ x ≤ 2147483647) (kt : 0 ≤ x → V g m d Q h tgt lc st) (kf : x < 0 → V g m d Q h (pc + 3) lc st) : V g m d Q h pc lc (xI x :: st) := by
  intro p lch e R s mi args below meth c H locs cells slots ls C P S L
  have e1 := @i32_eq x 0 hx (by omega)
  have e2 := @i32_lt x 0 hx (by omega)
  have e3 := @i32_lt 0 x (by omega) hx
  have e4 := @i32_le x 0 hx (by omega)
  have e5 := @i32_le 0 x (by omega) hx
  rw [← i32_0] at e1 e2 e3 e4 e5
  refine lv_if_ge C.1 C.2.1 hd ht (fun q => ?_) (fun q => ?_)
  · have q : 0 ≤ x := by simp only [e1, e2, e3, e4, e5, ne_eq, ge_iff_le, gt_iff_lt] at q; omega
    exact (kt q p lch e R s mi args below meth c H locs cells slots ls C P S L)
  · have q : x < 0 := by simp only [e1, e2, e3, e4, e5, ne_eq, ge_iff_le, gt_iff_lt] at q; omega
    exact (kf q p lch e R s mi args below meth c H locs cells slots ls C P S L)
theorem V_if_gt {x : Int} {off : Int} {tgt : Nat} (hd : decode m.2.1 pc = .ok (.ifCond .gt off, 3)) (ht : (pc : Int) + off = (tgt : Int)) (hx : -2147483648 ≤ x ∧ x ≤ 2147483647) (kt : 0 < x → V g m d Q h tgt lc st) (kf : x ≤ 0 → V g m d Q h (pc + 3) lc st) : V g m d Q h pc lc (xI x :: st) := by
  intro p lch e R s mi args below meth c H locs cells slots ls C P S L
  have e1 := @i32_eq x 0 hx (by omega)
  have e2 := @i32_lt x 0 hx (by omega)
  have e3 := @i32_lt 0 x (by omega) hx
  have e4 := @i32_le x 0 hx (by omega)
  have e5 := @i32_le 0 x (by omega) hx
  rw [← i32_0] at e1 e2 e3 e4 e5
  refine lv_if_gt C.1 C.2.1 hd ht (fun q => ?_) (fun q => ?_)
  · have q : 0 < x := by simp only [e1, e2, e3, e4, e5, ne_eq, ge_iff_le, gt_iff_lt] at q; omega
    exact (kt q p lch e R s mi args below meth c H locs cells slots ls C P S L)
  · have q : x ≤ 0 := by simp only [e1, e2, e3, e4, e5, ne_eq, ge_iff_le, gt_iff_lt] at q; omega
    exact (kf q p lch e R s mi args below meth c H locs cells slots ls C P S L)
theorem V_if_le {x : Int} {off : Int} {tgt : Nat} (hd : decode m.2.1 pc = .ok (.ifCond .le off, 3)) (ht : (pc : Int) + off = (tgt : Int)) (hx : -2147483648 ≤ x ∧ x ≤ 2147483647) (kt : x ≤ 0 → V g m d Q h tgt lc st) (kf : 0 < x → V g m d Q h (pc + 3) lc st) : V g m d Q h pc lc (xI x :: st) := by
  intro p lch e R s mi args below meth c H locs cells slots ls C P S L
  have e1 := @i32_eq x 0 hx (by omega)
  have e2 := @i32_lt x 0 hx (by omega)
  have e3 := @i32_lt 0 x (by omega) hx
  have e4 := @i32_le x 0 hx (by omega)
  have e5 := @i32_le 0 x (by omega) hx
  rw [← i32_0] at e1 e2 e3 e4 e5
  refine lv_if_le C.1 C.2.1 hd ht (fun q => ?_) (fun q => ?_)
  · have q : x ≤ 0 := by simp only [e1, e2, e3, e4, e5, ne_eq, ge_iff_le, gt_iff_lt] at q; omega
    exact (kt q p lch e R s mi args below meth c H locs cells slots ls C P S L)
  · have q : 0 < x := by simp only [e1, e2, e3, e4, e5, ne_eq, ge_iff_le, gt_iff_lt] at q; omega
    exact (kf q p lch e R s mi args below meth c H locs cells slots ls C P S L)
theorem V_icmp_eq {x y : Int} {off : Int} {tgt : Nat} (hd : decode m.2.1 pc = .ok (.if_icmp .eq off, 3)) (ht : (pc : Int) + off = (tgt : Int)) (hx : -2147483648 ≤ x ∧ x ≤ 2147483647) (hy : -2147483648 ≤ y ∧ y ≤ 2147483647) (kt : x = y → V g m d Q h tgt lc st) (kf : x ≠ y → V g m d Q h (pc + 3) lc st) : V g m d Q h pc lc (xI y :: xI x :: st) := by
  intro p lch e R s mi args below meth c H locs cells slots ls C P S L
  have e1 := @i32_eq x y hx hy
  have e2 := @i32_lt x y hx hy
  have e3 := @i32_lt y x hy hx
  have e4 := @i32_le x y hx hy
  have e5 := @i32_le y x hy hx
  refine lv_icmp_eq C.1 C.2.1 hd ht (fun q => ?_) (fun q => ?_)
  · have q : x = y := by simp only [e1, e2, e3, e4, e5, ne_eq, ge_iff_le, gt_iff_lt] at q; omega
    exact (kt q p lch e R s mi args below meth c H locs cells slots ls C P S L)
  · have q : x ≠ y := by simp only [e1, e2, e3, e4, e5, ne_eq, ge_iff_le, gt_iff_lt] at q; omega
    exact (kf q p lch e R s mi args below meth c H locs cells slots ls C P S L)
theorem V_icmp_ne {x y : Int} {off : Int} {tgt : Nat} (hd : decode m.2.1 pc = .ok (.if_icmp .ne off, 3)) (ht : (pc : Int) + off = (tgt : Int)) (hx : -2147483648 ≤ x ∧ x ≤ 2147483647) (hy : -2147483648 ≤ y ∧ y ≤ 2147483647) (kt : x ≠ y → V g m d Q h tgt lc st) (kf : x = y → V g m d Q h (pc + 3) lc st) : V g m d Q h pc lc (xI y :: xI x :: st) := by
  intro p lch e R s mi args below meth c H locs cells slots ls C P S L
  have e1 := @i32_eq x y hx hy
  have e2 := @i32_lt x y hx hy
  have e3 := @i32_lt y x hy hx
  have e4 := @i32_le x y hx hy
  have e5 := @i32_le y x hy hx
  refine lv_icmp_ne C.1 C.2.1 hd ht (fun q => ?_) (fun q => ?_)
  · have q : x ≠ y := by simp only [e1, e2, e3, e4, e5, ne_eq, ge_iff_le, gt_iff_lt] at q; omega
    exact (kt q p lch e R s mi args below meth c H locs cells slots ls C P S L)
  · have q : x = y := by simp only [e1, e2, e3, e4, e5, ne_eq, ge_iff_le, gt_iff_lt] at q; omega
    exact (kf q p lch e R s mi args below meth c H locs cells slots ls C P S L)
theorem V_icmp_lt {x y : Int} {off : Int} {tgt : Nat} (hd : decode m.2.1 pc = .ok (.if_icmp .lt off, 3)) (ht : (pc : Int) + off = (tgt : Int)) (hx : -2147483648 ≤ x ∧ x ≤ 2147483647) (hy : -2147483648 ≤ y ∧ y ≤ 2147483647) (kt : x < y → V g m d Q h tgt lc st) (kf : y ≤ x → V g m d Q h (pc + 3) lc st) : V g m d Q h pc lc (xI y :: xI x :: st) := by
  intro p lch e R s mi args below meth c H locs cells slots ls C P S L
  have e1 := @i32_eq x y hx hy
  have e2 := @i32_lt x y hx hy
  have e3 := @i32_lt y x hy hx
  have e4 := @i32_le x y hx hy
  have e5 := @i32_le y x hy hx
  refine lv_icmp_lt C.1 C.2.1 hd ht (fun q => ?_) (fun q => ?_)
  · have q : x < y := by simp only [e1, e2, e3, e4, e5, ne_eq, ge_iff_le, gt_iff_lt] at q; omega
    exact (kt q p lch e R s mi args below meth c H locs cells slots ls C P S L)
  · have q : y ≤ x := by simp only [e1, e2, e3, e4, e5, ne_eq, ge_iff_le, gt_iff_lt] at q; omega
    exact (kf q p lch e R s mi args below meth c H locs cells slots ls C P S L)
theorem V_icmp_ge {x y : Int} {off : Int} {tgt : Nat} (hd : decode m.2.1 pc = .ok (.if_icmp .ge off, 3)) (ht : (pc : Int) + off = (tgt : Int)) (hx : -2147483648 ≤ x ∧ x ≤ 2147483647) (hy : -2147483648 ≤ y ∧ y ≤ 2147483647) (kt : y ≤ x → V g m d Q h tgt lc st) (kf : x < y → V g m d Q h (pc + 3) lc st) : V g m d Q h pc lc (xI y :: xI x :: st) := by
  intro p lch e R s mi args below meth c H locs cells slots ls C P S L
  have e1 := @i32_eq x y hx hy
  have e2 := @i32_lt x y hx hy
  have e3 := @i32_lt y x hy hx
  have e4 := @i32_le x y hx hy
  have e5 := @i32_le y x hy hx
  refine lv_icmp_ge C.1 C.2.1 hd ht (fun q => ?_) (fun q => ?_)
  · have q : y ≤ x := by simp only [e1, e2, e3, e4, e5, ne_eq, ge_iff_le, gt_iff_lt] at q; omega
    exact (kt q p lch e R s mi args below meth c H locs cells slots ls C P S L)
  · have q : x < y := by simp only [e1, e2, e3, e4, e5, ne_eq, ge_iff_le, gt_iff_lt] at q; omega
    exact (kf q p lch e R s mi args below meth c H locs cells slots ls C P S L)
theorem V_icmp_gt {x y : Int} {off : Int} {tgt : Nat} (hd : decode m.2.1 pc = .ok (.if_icmp .gt off, 3)) (ht : (pc : Int) + off = (tgt : Int)) (hx : -2147483648 ≤ x ∧ x ≤ 2147483647) (hy : -2147483648 ≤ y ∧ y ≤ 2147483647) (kt : y < x → V g m d Q h tgt lc st) (kf : x ≤ y → V g m d Q h (pc + 3) lc st) : V g m d Q h pc lc (xI y :: xI x :: st) := by
  intro p lch e R s mi args below meth c H locs cells slots ls C P S L
  have e1 := @i32_eq x y hx hy
  have e2 := @i32_lt x y hx hy
  have e3 := @i32_lt y x hy hx
  have e4 := @i32_le x y hx hy
  have e5 := @i32_le y x hy hx
  refine lv_icmp_gt C.1 C.2.1 hd ht (fun q => ?_) (fun q => ?_)
  · have q : y < x := by simp only [e1, e2, e3, e4, e5, ne_eq, ge_iff_le, gt_iff_lt] at q; omega
    exact (kt q p lch e R s mi args below meth c H locs cells slots ls C P S L)
  · have q : x ≤ y := by simp only [e1, e2, e3, e4, e5, ne_eq, ge_iff_le, gt_iff_lt] at q; omega
    exact (kf q p lch e R s mi args below meth c H locs cells slots ls C P S L)
theorem V_icmp_le {x y : Int} {off : Int} {tgt : Nat} (hd : decode m.2.1 pc = .ok (.if_icmp .le off, 3)) (ht : (pc : Int) + off = (tgt : Int)) (hx : -2147483648 ≤ x ∧ x ≤ 2147483647) (hy : -2147483648 ≤ y ∧ y ≤ 2147483647) (kt : x ≤ y → V g m d Q h tgt lc st) (kf : y < x → V g m d Q h (pc + 3) lc st) : V g m d Q h pc lc (xI y :: xI x :: st) := by
  intro p lch e R s mi args below meth c H locs cells slots ls C P S L
  have e1 := @i32_eq x y hx hy
  have e2 := @i32_lt x y hx hy
  have e3 := @i32_lt y x hy hx
  have e4 := @i32_le x y hx hy
  have e5 := @i32_le y x hy hx
  refine lv_icmp_le C.1 C.2.1 hd ht (fun q => ?_) (fun q => ?_)
  · have q : x ≤ y := by simp only [e1, e2, e3, e4, e5, ne_eq, ge_iff_le, gt_iff_lt] at q; omega
    exact (kt q p lch e R s mi args below meth c H locs cells slots ls C P S L)
  · have q : y < x := by simp only [e1, e2, e3, e4, e5, ne_eq, ge_iff_le, gt_iff_lt] at q; omega
    exact (kf q p lch e R s mi args below meth c H locs cells slots ls C P S L)
end V1
end
