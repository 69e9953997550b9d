section
-- ===== PART A: goes FIRST, ahead of the names: the tables' words, and 'selects' of the private methods out of them =====
/-- a private method of a class that the tables say can be made, by its rows of tables_1 -/
def lw_okq (q : MethodName × Nat) : Prop := (q.1.cls ≠ "java/lang/invoke/MethodHandle" ∧ q.1.cls ≠ "java/lang/invoke/VarHandle") ∧ Cond.instantiable q.1.cls q.2 ∈ tables_1 ∧ Cond.privateMethod q.1 ∈ tables_1 ∧ Cond.instanceMethod q.1 ∈ tables_1
theorem lw_p0 : lw_okq (⟨"TestHall", "releaseMisplaced", "(I)I"⟩, 10) := ⟨⟨by decide +kernel, by decide +kernel⟩, List.mem_of_getElem? (i := 22) (by decide +kernel), List.mem_of_getElem? (i := 289) (by decide +kernel), List.mem_of_getElem? (i := 290) (by decide +kernel)⟩
theorem lw_p1 : lw_okq (⟨"TestHall", "isStillThere", "(LTestHall$Learner;)Z"⟩, 10) := ⟨⟨by decide +kernel, by decide +kernel⟩, List.mem_of_getElem? (i := 22) (by decide +kernel), List.mem_of_getElem? (i := 296) (by decide +kernel), List.mem_of_getElem? (i := 297) (by decide +kernel)⟩
theorem lw_p2 : lw_okq (⟨"TestHall", "release", "(LTestHall$Learner;)V"⟩, 10) := ⟨⟨by decide +kernel, by decide +kernel⟩, List.mem_of_getElem? (i := 22) (by decide +kernel), List.mem_of_getElem? (i := 318) (by decide +kernel), List.mem_of_getElem? (i := 319) (by decide +kernel)⟩
theorem lw_p3 : lw_okq (⟨"TestHall$TextReader", "scan", "()V"⟩, 8) := ⟨⟨by decide +kernel, by decide +kernel⟩, List.mem_of_getElem? (i := 109) (by decide +kernel), List.mem_of_getElem? (i := 402) (by decide +kernel), List.mem_of_getElem? (i := 403) (by decide +kernel)⟩
theorem lw_p4 : lw_okq (⟨"TestHall$TextReader", "endOf", "(I)I"⟩, 8) := ⟨⟨by decide +kernel, by decide +kernel⟩, List.mem_of_getElem? (i := 109) (by decide +kernel), List.mem_of_getElem? (i := 409) (by decide +kernel), List.mem_of_getElem? (i := 410) (by decide +kernel)⟩
theorem lw_p5 : lw_okq (⟨"TestHall$TextReader", "tokenOf", "(II)I"⟩, 8) := ⟨⟨by decide +kernel, by decide +kernel⟩, List.mem_of_getElem? (i := 109) (by decide +kernel), List.mem_of_getElem? (i := 419) (by decide +kernel), List.mem_of_getElem? (i := 420) (by decide +kernel)⟩
theorem lw_p6 : lw_okq (⟨"TestHall$TextReader", "wordOf", "(II)I"⟩, 8) := ⟨⟨by decide +kernel, by decide +kernel⟩, List.mem_of_getElem? (i := 109) (by decide +kernel), List.mem_of_getElem? (i := 423) (by decide +kernel), List.mem_of_getElem? (i := 424) (by decide +kernel)⟩
theorem lw_p7 : lw_okq (⟨"TestHall$TextReader", "isSpelt", "(IILjava/lang/String;)Z"⟩, 8) := ⟨⟨by decide +kernel, by decide +kernel⟩, List.mem_of_getElem? (i := 109) (by decide +kernel), List.mem_of_getElem? (i := 428) (by decide +kernel), List.mem_of_getElem? (i := 429) (by decide +kernel)⟩
theorem lw_p8 : lw_okq (⟨"TestHall$TextReader", "numberOf", "(II)I"⟩, 8) := ⟨⟨by decide +kernel, by decide +kernel⟩, List.mem_of_getElem? (i := 109) (by decide +kernel), List.mem_of_getElem? (i := 488) (by decide +kernel), List.mem_of_getElem? (i := 489) (by decide +kernel)⟩
theorem lw_p9 : lw_okq (⟨"TestHall$TextReader", "addToken", "(II)V"⟩, 8) := ⟨⟨by decide +kernel, by decide +kernel⟩, List.mem_of_getElem? (i := 109) (by decide +kernel), List.mem_of_getElem? (i := 495) (by decide +kernel), List.mem_of_getElem? (i := 496) (by decide +kernel)⟩
theorem lw_p10 : lw_okq (⟨"TestHall$TextReader", "peek", "()I"⟩, 8) := ⟨⟨by decide +kernel, by decide +kernel⟩, List.mem_of_getElem? (i := 109) (by decide +kernel), List.mem_of_getElem? (i := 499) (by decide +kernel), List.mem_of_getElem? (i := 500) (by decide +kernel)⟩
theorem lw_p11 : lw_okq (⟨"TestHall$TextReader", "readLine", "()Z"⟩, 8) := ⟨⟨by decide +kernel, by decide +kernel⟩, List.mem_of_getElem? (i := 109) (by decide +kernel), List.mem_of_getElem? (i := 503) (by decide +kernel), List.mem_of_getElem? (i := 504) (by decide +kernel)⟩
theorem lw_p12 : lw_okq (⟨"TestHall$TextReader", "take", "(I)Z"⟩, 8) := ⟨⟨by decide +kernel, by decide +kernel⟩, List.mem_of_getElem? (i := 109) (by decide +kernel), List.mem_of_getElem? (i := 507) (by decide +kernel), List.mem_of_getElem? (i := 508) (by decide +kernel)⟩
theorem lw_p13 : lw_okq (⟨"TestHall$TextReader", "readCondition", "(I)Z"⟩, 8) := ⟨⟨by decide +kernel, by decide +kernel⟩, List.mem_of_getElem? (i := 109) (by decide +kernel), List.mem_of_getElem? (i := 511) (by decide +kernel), List.mem_of_getElem? (i := 512) (by decide +kernel)⟩
theorem lw_p14 : lw_okq (⟨"TestHall$TextReader", "readTest", "(I)Z"⟩, 8) := ⟨⟨by decide +kernel, by decide +kernel⟩, List.mem_of_getElem? (i := 109) (by decide +kernel), List.mem_of_getElem? (i := 515) (by decide +kernel), List.mem_of_getElem? (i := 516) (by decide +kernel)⟩
theorem lw_p15 : lw_okq (⟨"TestHall$TextReader", "readSum", "(I)Z"⟩, 8) := ⟨⟨by decide +kernel, by decide +kernel⟩, List.mem_of_getElem? (i := 109) (by decide +kernel), List.mem_of_getElem? (i := 519) (by decide +kernel), List.mem_of_getElem? (i := 520) (by decide +kernel)⟩
def lw_privs_1 : List (MethodName × Nat) := [(⟨"TestHall", "releaseMisplaced", "(I)I"⟩, 10), (⟨"TestHall", "isStillThere", "(LTestHall$Learner;)Z"⟩, 10), (⟨"TestHall", "release", "(LTestHall$Learner;)V"⟩, 10), (⟨"TestHall$TextReader", "scan", "()V"⟩, 8), (⟨"TestHall$TextReader", "endOf", "(I)I"⟩, 8), (⟨"TestHall$TextReader", "tokenOf", "(II)I"⟩, 8), (⟨"TestHall$TextReader", "wordOf", "(II)I"⟩, 8), (⟨"TestHall$TextReader", "isSpelt", "(IILjava/lang/String;)Z"⟩, 8), (⟨"TestHall$TextReader", "numberOf", "(II)I"⟩, 8), (⟨"TestHall$TextReader", "addToken", "(II)V"⟩, 8), (⟨"TestHall$TextReader", "peek", "()I"⟩, 8), (⟨"TestHall$TextReader", "readLine", "()Z"⟩, 8), (⟨"TestHall$TextReader", "take", "(I)Z"⟩, 8), (⟨"TestHall$TextReader", "readCondition", "(I)Z"⟩, 8), (⟨"TestHall$TextReader", "readTest", "(I)Z"⟩, 8), (⟨"TestHall$TextReader", "readSum", "(I)Z"⟩, 8)]
theorem lw_r1 : ∀ q ∈ lw_privs_1, lw_okq q := List.forall_mem_cons.mpr ⟨lw_p0, List.forall_mem_cons.mpr ⟨lw_p1, List.forall_mem_cons.mpr ⟨lw_p2, List.forall_mem_cons.mpr ⟨lw_p3, List.forall_mem_cons.mpr ⟨lw_p4, List.forall_mem_cons.mpr ⟨lw_p5, List.forall_mem_cons.mpr ⟨lw_p6, List.forall_mem_cons.mpr ⟨lw_p7, List.forall_mem_cons.mpr ⟨lw_p8, List.forall_mem_cons.mpr ⟨lw_p9, List.forall_mem_cons.mpr ⟨lw_p10, List.forall_mem_cons.mpr ⟨lw_p11, List.forall_mem_cons.mpr ⟨lw_p12, List.forall_mem_cons.mpr ⟨lw_p13, List.forall_mem_cons.mpr ⟨lw_p14, List.forall_mem_cons.mpr ⟨lw_p15, fun _ h => absurd h List.not_mem_nil⟩⟩⟩⟩⟩⟩⟩⟩⟩⟩⟩⟩⟩⟩⟩⟩
theorem lw_p16 : lw_okq (⟨"TestHall$TextReader", "readPart", "(I)Z"⟩, 8) := ⟨⟨by decide +kernel, by decide +kernel⟩, List.mem_of_getElem? (i := 109) (by decide +kernel), List.mem_of_getElem? (i := 523) (by decide +kernel), List.mem_of_getElem? (i := 524) (by decide +kernel)⟩
theorem lw_p17 : lw_okq (⟨"TestHall$TextReader", "placeOfNext", "()I"⟩, 8) := ⟨⟨by decide +kernel, by decide +kernel⟩, List.mem_of_getElem? (i := 109) (by decide +kernel), List.mem_of_getElem? (i := 535) (by decide +kernel), List.mem_of_getElem? (i := 536) (by decide +kernel)⟩
theorem lw_p18 : lw_okq (⟨"TestHall", "lineUpWaiting", "()V"⟩, 10) := ⟨⟨by decide +kernel, by decide +kernel⟩, List.mem_of_getElem? (i := 22) (by decide +kernel), List.mem_of_getElem? (i := 544) (by decide +kernel), List.mem_of_getElem? (i := 545) (by decide +kernel)⟩
theorem lw_p19 : lw_okq (⟨"TestHall", "rankOf", "(LTestHall$Learner;)I"⟩, 10) := ⟨⟨by decide +kernel, by decide +kernel⟩, List.mem_of_getElem? (i := 22) (by decide +kernel), List.mem_of_getElem? (i := 552) (by decide +kernel), List.mem_of_getElem? (i := 553) (by decide +kernel)⟩
theorem lw_p20 : lw_okq (⟨"TestHall$Text", "valueOf", "(II[I)I"⟩, 6) := ⟨⟨by decide +kernel, by decide +kernel⟩, List.mem_of_getElem? (i := 204) (by decide +kernel), List.mem_of_getElem? (i := 560) (by decide +kernel), List.mem_of_getElem? (i := 561) (by decide +kernel)⟩
theorem lw_p21 : lw_okq (⟨"TestHall", "dealLine", "()I"⟩, 10) := ⟨⟨by decide +kernel, by decide +kernel⟩, List.mem_of_getElem? (i := 22) (by decide +kernel), List.mem_of_getElem? (i := 571) (by decide +kernel), List.mem_of_getElem? (i := 572) (by decide +kernel)⟩
theorem lw_p22 : lw_okq (⟨"TestHall$Calendar", "leastFreeOn", "(II)I"⟩, 9) := ⟨⟨by decide +kernel, by decide +kernel⟩, List.mem_of_getElem? (i := 30) (by decide +kernel), List.mem_of_getElem? (i := 583) (by decide +kernel), List.mem_of_getElem? (i := 584) (by decide +kernel)⟩
theorem lw_p23 : lw_okq (⟨"TestHall$Calendar", "firstFreeOf", "(II)I"⟩, 9) := ⟨⟨by decide +kernel, by decide +kernel⟩, List.mem_of_getElem? (i := 30) (by decide +kernel), List.mem_of_getElem? (i := 587) (by decide +kernel), List.mem_of_getElem? (i := 588) (by decide +kernel)⟩
theorem lw_p24 : lw_okq (⟨"TestHall", "book", "(LTestHall$Learner;I)V"⟩, 10) := ⟨⟨by decide +kernel, by decide +kernel⟩, List.mem_of_getElem? (i := 22) (by decide +kernel), List.mem_of_getElem? (i := 602) (by decide +kernel), List.mem_of_getElem? (i := 603) (by decide +kernel)⟩
theorem lw_p25 : lw_okq (⟨"TestHall", "find", "(I)LTestHall$Learner;"⟩, 10) := ⟨⟨by decide +kernel, by decide +kernel⟩, List.mem_of_getElem? (i := 22) (by decide +kernel), List.mem_of_getElem? (i := 610) (by decide +kernel), List.mem_of_getElem? (i := 611) (by decide +kernel)⟩
theorem lw_p26 : lw_okq (⟨"TestHall", "moveUp", "(I)I"⟩, 10) := ⟨⟨by decide +kernel, by decide +kernel⟩, List.mem_of_getElem? (i := 22) (by decide +kernel), List.mem_of_getElem? (i := 614) (by decide +kernel), List.mem_of_getElem? (i := 615) (by decide +kernel)⟩
theorem lw_p27 : lw_okq (⟨"TestHall", "lineUpSooner", "()V"⟩, 10) := ⟨⟨by decide +kernel, by decide +kernel⟩, List.mem_of_getElem? (i := 22) (by decide +kernel), List.mem_of_getElem? (i := 618) (by decide +kernel), List.mem_of_getElem? (i := 619) (by decide +kernel)⟩
theorem lw_p28 : lw_okq (⟨"TestHall", "firstToMove", "(I)LTestHall$Learner;"⟩, 10) := ⟨⟨by decide +kernel, by decide +kernel⟩, List.mem_of_getElem? (i := 22) (by decide +kernel), List.mem_of_getElem? (i := 623) (by decide +kernel), List.mem_of_getElem? (i := 624) (by decide +kernel)⟩
theorem lw_p29 : lw_okq (⟨"TestHall", "isSuiting", "(ILTestHall$Learner;)Z"⟩, 10) := ⟨⟨by decide +kernel, by decide +kernel⟩, List.mem_of_getElem? (i := 22) (by decide +kernel), List.mem_of_getElem? (i := 627) (by decide +kernel), List.mem_of_getElem? (i := 628) (by decide +kernel)⟩
theorem lw_p30 : lw_okq (⟨"TestHall$Streets", "hasRoomAt", "(I)Z"⟩, 18) := ⟨⟨by decide +kernel, by decide +kernel⟩, List.mem_of_getElem? (i := 140) (by decide +kernel), List.mem_of_getElem? (i := 676) (by decide +kernel), List.mem_of_getElem? (i := 677) (by decide +kernel)⟩
theorem lw_p31 : lw_okq (⟨"TestHall$Streets", "putAt", "(II)V"⟩, 18) := ⟨⟨by decide +kernel, by decide +kernel⟩, List.mem_of_getElem? (i := 140) (by decide +kernel), List.mem_of_getElem? (i := 681) (by decide +kernel), List.mem_of_getElem? (i := 682) (by decide +kernel)⟩
def lw_privs_2 : List (MethodName × Nat) := [(⟨"TestHall$TextReader", "readPart", "(I)Z"⟩, 8), (⟨"TestHall$TextReader", "placeOfNext", "()I"⟩, 8), (⟨"TestHall", "lineUpWaiting", "()V"⟩, 10), (⟨"TestHall", "rankOf", "(LTestHall$Learner;)I"⟩, 10), (⟨"TestHall$Text", "valueOf", "(II[I)I"⟩, 6), (⟨"TestHall", "dealLine", "()I"⟩, 10), (⟨"TestHall$Calendar", "leastFreeOn", "(II)I"⟩, 9), (⟨"TestHall$Calendar", "firstFreeOf", "(II)I"⟩, 9), (⟨"TestHall", "book", "(LTestHall$Learner;I)V"⟩, 10), (⟨"TestHall", "find", "(I)LTestHall$Learner;"⟩, 10), (⟨"TestHall", "moveUp", "(I)I"⟩, 10), (⟨"TestHall", "lineUpSooner", "()V"⟩, 10), (⟨"TestHall", "firstToMove", "(I)LTestHall$Learner;"⟩, 10), (⟨"TestHall", "isSuiting", "(ILTestHall$Learner;)Z"⟩, 10), (⟨"TestHall$Streets", "hasRoomAt", "(I)Z"⟩, 18), (⟨"TestHall$Streets", "putAt", "(II)V"⟩, 18)]
theorem lw_r2 : ∀ q ∈ lw_privs_2, lw_okq q := List.forall_mem_cons.mpr ⟨lw_p16, List.forall_mem_cons.mpr ⟨lw_p17, List.forall_mem_cons.mpr ⟨lw_p18, List.forall_mem_cons.mpr ⟨lw_p19, List.forall_mem_cons.mpr ⟨lw_p20, List.forall_mem_cons.mpr ⟨lw_p21, List.forall_mem_cons.mpr ⟨lw_p22, List.forall_mem_cons.mpr ⟨lw_p23, List.forall_mem_cons.mpr ⟨lw_p24, List.forall_mem_cons.mpr ⟨lw_p25, List.forall_mem_cons.mpr ⟨lw_p26, List.forall_mem_cons.mpr ⟨lw_p27, List.forall_mem_cons.mpr ⟨lw_p28, List.forall_mem_cons.mpr ⟨lw_p29, List.forall_mem_cons.mpr ⟨lw_p30, List.forall_mem_cons.mpr ⟨lw_p31, fun _ h => absurd h List.not_mem_nil⟩⟩⟩⟩⟩⟩⟩⟩⟩⟩⟩⟩⟩⟩⟩⟩
theorem lw_p32 : lw_okq (⟨"TestHall$Streets", "search", "(I)V"⟩, 18) := ⟨⟨by decide +kernel, by decide +kernel⟩, List.mem_of_getElem? (i := 140) (by decide +kernel), List.mem_of_getElem? (i := 701) (by decide +kernel), List.mem_of_getElem? (i := 702) (by decide +kernel)⟩
theorem lw_p33 : lw_okq (⟨"TestHall$Streets", "walk", "(IIIII)Z"⟩, 18) := ⟨⟨by decide +kernel, by decide +kernel⟩, List.mem_of_getElem? (i := 140) (by decide +kernel), List.mem_of_getElem? (i := 705) (by decide +kernel), List.mem_of_getElem? (i := 706) (by decide +kernel)⟩
theorem lw_p34 : lw_okq (⟨"TestHall$Streets", "isTarget", "(III)Z"⟩, 18) := ⟨⟨by decide +kernel, by decide +kernel⟩, List.mem_of_getElem? (i := 140) (by decide +kernel), List.mem_of_getElem? (i := 709) (by decide +kernel), List.mem_of_getElem? (i := 710) (by decide +kernel)⟩
theorem lw_p35 : lw_okq (⟨"TestHall", "countOfState", "(I)I"⟩, 10) := ⟨⟨by decide +kernel, by decide +kernel⟩, List.mem_of_getElem? (i := 22) (by decide +kernel), List.mem_of_getElem? (i := 754) (by decide +kernel), List.mem_of_getElem? (i := 755) (by decide +kernel)⟩
theorem lw_p36 : lw_okq (⟨"TestHall", "countBookedWith", "(I)I"⟩, 10) := ⟨⟨by decide +kernel, by decide +kernel⟩, List.mem_of_getElem? (i := 22) (by decide +kernel), List.mem_of_getElem? (i := 764) (by decide +kernel), List.mem_of_getElem? (i := 765) (by decide +kernel)⟩
theorem lw_p37 : lw_okq (⟨"java/lang/Throwable", "fillInStackTrace", "(I)Ljava/lang/Throwable;"⟩, 6) := ⟨⟨by decide +kernel, by decide +kernel⟩, List.mem_of_getElem? (i := 812) (by decide +kernel), List.mem_of_getElem? (i := 810) (by decide +kernel), List.mem_of_getElem? (i := 811) (by decide +kernel)⟩
theorem lw_p38 : lw_okq (⟨"TestHall", "placeAmongWaiting", "(LTestHall$Learner;)I"⟩, 10) := ⟨⟨by decide +kernel, by decide +kernel⟩, List.mem_of_getElem? (i := 22) (by decide +kernel), List.mem_of_getElem? (i := 841) (by decide +kernel), List.mem_of_getElem? (i := 842) (by decide +kernel)⟩
theorem lw_p39 : lw_okq (⟨"TestHallModel", "lay", "(J)V"⟩, 62) := ⟨⟨by decide +kernel, by decide +kernel⟩, List.mem_of_getElem? (i := 860) (by decide +kernel), List.mem_of_getElem? (i := 858) (by decide +kernel), List.mem_of_getElem? (i := 859) (by decide +kernel)⟩
theorem lw_p40 : lw_okq (⟨"TestHallModel", "cutAll", "()V"⟩, 62) := ⟨⟨by decide +kernel, by decide +kernel⟩, List.mem_of_getElem? (i := 860) (by decide +kernel), List.mem_of_getElem? (i := 1069) (by decide +kernel), List.mem_of_getElem? (i := 1070) (by decide +kernel)⟩
theorem lw_p41 : lw_okq (⟨"TestHallModel", "line", "()V"⟩, 62) := ⟨⟨by decide +kernel, by decide +kernel⟩, List.mem_of_getElem? (i := 860) (by decide +kernel), List.mem_of_getElem? (i := 1088) (by decide +kernel), List.mem_of_getElem? (i := 1089) (by decide +kernel)⟩
theorem lw_p42 : lw_okq (⟨"TestHallModel", "isWord", "(I)Z"⟩, 62) := ⟨⟨by decide +kernel, by decide +kernel⟩, List.mem_of_getElem? (i := 860) (by decide +kernel), List.mem_of_getElem? (i := 1092) (by decide +kernel), List.mem_of_getElem? (i := 1093) (by decide +kernel)⟩
theorem lw_p43 : lw_okq (⟨"TestHallModel", "wrong", "(I)V"⟩, 62) := ⟨⟨by decide +kernel, by decide +kernel⟩, List.mem_of_getElem? (i := 860) (by decide +kernel), List.mem_of_getElem? (i := 1096) (by decide +kernel), List.mem_of_getElem? (i := 1097) (by decide +kernel)⟩
theorem lw_p44 : lw_okq (⟨"TestHallModel", "takeWord", "(I)V"⟩, 62) := ⟨⟨by decide +kernel, by decide +kernel⟩, List.mem_of_getElem? (i := 860) (by decide +kernel), List.mem_of_getElem? (i := 1101) (by decide +kernel), List.mem_of_getElem? (i := 1102) (by decide +kernel)⟩
theorem lw_p45 : lw_okq (⟨"TestHallModel", "hasWord", "(I)Z"⟩, 62) := ⟨⟨by decide +kernel, by decide +kernel⟩, List.mem_of_getElem? (i := 860) (by decide +kernel), List.mem_of_getElem? (i := 1105) (by decide +kernel), List.mem_of_getElem? (i := 1106) (by decide +kernel)⟩
theorem lw_p46 : lw_okq (⟨"TestHallModel", "opens", "()V"⟩, 62) := ⟨⟨by decide +kernel, by decide +kernel⟩, List.mem_of_getElem? (i := 860) (by decide +kernel), List.mem_of_getElem? (i := 1109) (by decide +kernel), List.mem_of_getElem? (i := 1110) (by decide +kernel)⟩
theorem lw_p47 : lw_okq (⟨"TestHallModel", "part", "()Z"⟩, 62) := ⟨⟨by decide +kernel, by decide +kernel⟩, List.mem_of_getElem? (i := 860) (by decide +kernel), List.mem_of_getElem? (i := 1113) (by decide +kernel), List.mem_of_getElem? (i := 1114) (by decide +kernel)⟩
def lw_privs_3 : List (MethodName × Nat) := [(⟨"TestHall$Streets", "search", "(I)V"⟩, 18), (⟨"TestHall$Streets", "walk", "(IIIII)Z"⟩, 18), (⟨"TestHall$Streets", "isTarget", "(III)Z"⟩, 18), (⟨"TestHall", "countOfState", "(I)I"⟩, 10), (⟨"TestHall", "countBookedWith", "(I)I"⟩, 10), (⟨"java/lang/Throwable", "fillInStackTrace", "(I)Ljava/lang/Throwable;"⟩, 6), (⟨"TestHall", "placeAmongWaiting", "(LTestHall$Learner;)I"⟩, 10), (⟨"TestHallModel", "lay", "(J)V"⟩, 62), (⟨"TestHallModel", "cutAll", "()V"⟩, 62), (⟨"TestHallModel", "line", "()V"⟩, 62), (⟨"TestHallModel", "isWord", "(I)Z"⟩, 62), (⟨"TestHallModel", "wrong", "(I)V"⟩, 62), (⟨"TestHallModel", "takeWord", "(I)V"⟩, 62), (⟨"TestHallModel", "hasWord", "(I)Z"⟩, 62), (⟨"TestHallModel", "opens", "()V"⟩, 62), (⟨"TestHallModel", "part", "()Z"⟩, 62)]
theorem lw_r3 : ∀ q ∈ lw_privs_3, lw_okq q := List.forall_mem_cons.mpr ⟨lw_p32, List.forall_mem_cons.mpr ⟨lw_p33, List.forall_mem_cons.mpr ⟨lw_p34, List.forall_mem_cons.mpr ⟨lw_p35, List.forall_mem_cons.mpr ⟨lw_p36, List.forall_mem_cons.mpr ⟨lw_p37, List.forall_mem_cons.mpr ⟨lw_p38, List.forall_mem_cons.mpr ⟨lw_p39, List.forall_mem_cons.mpr ⟨lw_p40, List.forall_mem_cons.mpr ⟨lw_p41, List.forall_mem_cons.mpr ⟨lw_p42, List.forall_mem_cons.mpr ⟨lw_p43, List.forall_mem_cons.mpr ⟨lw_p44, List.forall_mem_cons.mpr ⟨lw_p45, List.forall_mem_cons.mpr ⟨lw_p46, List.forall_mem_cons.mpr ⟨lw_p47, fun _ h => absurd h List.not_mem_nil⟩⟩⟩⟩⟩⟩⟩⟩⟩⟩⟩⟩⟩⟩⟩⟩
theorem lw_p48 : lw_okq (⟨"TestHallModel", "partWord", "()I"⟩, 62) := ⟨⟨by decide +kernel, by decide +kernel⟩, List.mem_of_getElem? (i := 860) (by decide +kernel), List.mem_of_getElem? (i := 1117) (by decide +kernel), List.mem_of_getElem? (i := 1118) (by decide +kernel)⟩
theorem lw_p49 : lw_okq (⟨"TestHallModel", "isSign", "(I)Z"⟩, 62) := ⟨⟨by decide +kernel, by decide +kernel⟩, List.mem_of_getElem? (i := 860) (by decide +kernel), List.mem_of_getElem? (i := 1121) (by decide +kernel), List.mem_of_getElem? (i := 1122) (by decide +kernel)⟩
theorem lw_p50 : lw_okq (⟨"TestHallModel", "hasSign", "(I)Z"⟩, 62) := ⟨⟨by decide +kernel, by decide +kernel⟩, List.mem_of_getElem? (i := 860) (by decide +kernel), List.mem_of_getElem? (i := 1125) (by decide +kernel), List.mem_of_getElem? (i := 1126) (by decide +kernel)⟩
theorem lw_p51 : lw_okq (⟨"TestHallModel", "emit", "(II)V"⟩, 62) := ⟨⟨by decide +kernel, by decide +kernel⟩, List.mem_of_getElem? (i := 860) (by decide +kernel), List.mem_of_getElem? (i := 1129) (by decide +kernel), List.mem_of_getElem? (i := 1130) (by decide +kernel)⟩
theorem lw_p52 : lw_okq (⟨"TestHallModel", "goesOnBehind", "()Z"⟩, 62) := ⟨⟨by decide +kernel, by decide +kernel⟩, List.mem_of_getElem? (i := 860) (by decide +kernel), List.mem_of_getElem? (i := 1133) (by decide +kernel), List.mem_of_getElem? (i := 1134) (by decide +kernel)⟩
theorem lw_p53 : lw_okq (⟨"TestHallModel", "takeSign", "(I)V"⟩, 62) := ⟨⟨by decide +kernel, by decide +kernel⟩, List.mem_of_getElem? (i := 860) (by decide +kernel), List.mem_of_getElem? (i := 1137) (by decide +kernel), List.mem_of_getElem? (i := 1138) (by decide +kernel)⟩
theorem lw_p54 : lw_okq (⟨"TestHallModel", "deals", "()I"⟩, 62) := ⟨⟨by decide +kernel, by decide +kernel⟩, List.mem_of_getElem? (i := 860) (by decide +kernel), List.mem_of_getElem? (i := 1153) (by decide +kernel), List.mem_of_getElem? (i := 1154) (by decide +kernel)⟩
theorem lw_p55 : lw_okq (⟨"TestHallModel", "findRanks", "()V"⟩, 62) := ⟨⟨by decide +kernel, by decide +kernel⟩, List.mem_of_getElem? (i := 860) (by decide +kernel), List.mem_of_getElem? (i := 1157) (by decide +kernel), List.mem_of_getElem? (i := 1158) (by decide +kernel)⟩
theorem lw_p56 : lw_okq (⟨"TestHallModel", "rankOf", "(I)I"⟩, 62) := ⟨⟨by decide +kernel, by decide +kernel⟩, List.mem_of_getElem? (i := 860) (by decide +kernel), List.mem_of_getElem? (i := 1161) (by decide +kernel), List.mem_of_getElem? (i := 1162) (by decide +kernel)⟩
theorem lw_p57 : lw_okq (⟨"TestHallModel", "worth", "(I)I"⟩, 62) := ⟨⟨by decide +kernel, by decide +kernel⟩, List.mem_of_getElem? (i := 860) (by decide +kernel), List.mem_of_getElem? (i := 1165) (by decide +kernel), List.mem_of_getElem? (i := 1166) (by decide +kernel)⟩
theorem lw_p58 : lw_okq (⟨"TestHallModel", "firstDealt", "()I"⟩, 62) := ⟨⟨by decide +kernel, by decide +kernel⟩, List.mem_of_getElem? (i := 860) (by decide +kernel), List.mem_of_getElem? (i := 1169) (by decide +kernel), List.mem_of_getElem? (i := 1170) (by decide +kernel)⟩
theorem lw_p59 : lw_okq (⟨"TestHallModel", "isAhead", "(II)Z"⟩, 62) := ⟨⟨by decide +kernel, by decide +kernel⟩, List.mem_of_getElem? (i := 860) (by decide +kernel), List.mem_of_getElem? (i := 1173) (by decide +kernel), List.mem_of_getElem? (i := 1174) (by decide +kernel)⟩
theorem lw_p60 : lw_okq (⟨"TestHallModel", "isFree", "(I)Z"⟩, 62) := ⟨⟨by decide +kernel, by decide +kernel⟩, List.mem_of_getElem? (i := 860) (by decide +kernel), List.mem_of_getElem? (i := 1177) (by decide +kernel), List.mem_of_getElem? (i := 1178) (by decide +kernel)⟩
theorem lw_p61 : lw_okq (⟨"TestHallModel", "isThere", "(I)Z"⟩, 62) := ⟨⟨by decide +kernel, by decide +kernel⟩, List.mem_of_getElem? (i := 860) (by decide +kernel), List.mem_of_getElem? (i := 1181) (by decide +kernel), List.mem_of_getElem? (i := 1182) (by decide +kernel)⟩
theorem lw_p62 : lw_okq (⟨"TestHallModel", "hasHour", "(III)Z"⟩, 62) := ⟨⟨by decide +kernel, by decide +kernel⟩, List.mem_of_getElem? (i := 860) (by decide +kernel), List.mem_of_getElem? (i := 1185) (by decide +kernel), List.mem_of_getElem? (i := 1186) (by decide +kernel)⟩
theorem lw_p63 : lw_okq (⟨"TestHallModel", "bookedAt", "(I)I"⟩, 62) := ⟨⟨by decide +kernel, by decide +kernel⟩, List.mem_of_getElem? (i := 860) (by decide +kernel), List.mem_of_getElem? (i := 1189) (by decide +kernel), List.mem_of_getElem? (i := 1190) (by decide +kernel)⟩
def lw_privs_4 : List (MethodName × Nat) := [(⟨"TestHallModel", "partWord", "()I"⟩, 62), (⟨"TestHallModel", "isSign", "(I)Z"⟩, 62), (⟨"TestHallModel", "hasSign", "(I)Z"⟩, 62), (⟨"TestHallModel", "emit", "(II)V"⟩, 62), (⟨"TestHallModel", "goesOnBehind", "()Z"⟩, 62), (⟨"TestHallModel", "takeSign", "(I)V"⟩, 62), (⟨"TestHallModel", "deals", "()I"⟩, 62), (⟨"TestHallModel", "findRanks", "()V"⟩, 62), (⟨"TestHallModel", "rankOf", "(I)I"⟩, 62), (⟨"TestHallModel", "worth", "(I)I"⟩, 62), (⟨"TestHallModel", "firstDealt", "()I"⟩, 62), (⟨"TestHallModel", "isAhead", "(II)Z"⟩, 62), (⟨"TestHallModel", "isFree", "(I)Z"⟩, 62), (⟨"TestHallModel", "isThere", "(I)Z"⟩, 62), (⟨"TestHallModel", "hasHour", "(III)Z"⟩, 62), (⟨"TestHallModel", "bookedAt", "(I)I"⟩, 62)]
theorem lw_r4 : ∀ q ∈ lw_privs_4, lw_okq q := List.forall_mem_cons.mpr ⟨lw_p48, List.forall_mem_cons.mpr ⟨lw_p49, List.forall_mem_cons.mpr ⟨lw_p50, List.forall_mem_cons.mpr ⟨lw_p51, List.forall_mem_cons.mpr ⟨lw_p52, List.forall_mem_cons.mpr ⟨lw_p53, List.forall_mem_cons.mpr ⟨lw_p54, List.forall_mem_cons.mpr ⟨lw_p55, List.forall_mem_cons.mpr ⟨lw_p56, List.forall_mem_cons.mpr ⟨lw_p57, List.forall_mem_cons.mpr ⟨lw_p58, List.forall_mem_cons.mpr ⟨lw_p59, List.forall_mem_cons.mpr ⟨lw_p60, List.forall_mem_cons.mpr ⟨lw_p61, List.forall_mem_cons.mpr ⟨lw_p62, List.forall_mem_cons.mpr ⟨lw_p63, fun _ h => absurd h List.not_mem_nil⟩⟩⟩⟩⟩⟩⟩⟩⟩⟩⟩⟩⟩⟩⟩⟩
theorem lw_p64 : lw_okq (⟨"TestHallModel", "suits", "(II)Z"⟩, 62) := ⟨⟨by decide +kernel, by decide +kernel⟩, List.mem_of_getElem? (i := 860) (by decide +kernel), List.mem_of_getElem? (i := 1193) (by decide +kernel), List.mem_of_getElem? (i := 1194) (by decide +kernel)⟩
theorem lw_p65 : lw_okq (⟨"TestHallModel", "books", "(II)V"⟩, 62) := ⟨⟨by decide +kernel, by decide +kernel⟩, List.mem_of_getElem? (i := 860) (by decide +kernel), List.mem_of_getElem? (i := 1197) (by decide +kernel), List.mem_of_getElem? (i := 1198) (by decide +kernel)⟩
theorem lw_p66 : lw_okq (⟨"TestHallModel", "isLearner", "(I)Z"⟩, 62) := ⟨⟨by decide +kernel, by decide +kernel⟩, List.mem_of_getElem? (i := 860) (by decide +kernel), List.mem_of_getElem? (i := 1205) (by decide +kernel), List.mem_of_getElem? (i := 1206) (by decide +kernel)⟩
theorem lw_p67 : lw_okq (⟨"TestHallModel", "waits", "(I)V"⟩, 62) := ⟨⟨by decide +kernel, by decide +kernel⟩, List.mem_of_getElem? (i := 860) (by decide +kernel), List.mem_of_getElem? (i := 1209) (by decide +kernel), List.mem_of_getElem? (i := 1210) (by decide +kernel)⟩
theorem lw_p68 : lw_okq (⟨"TestHallModel", "movesUp", "(I)I"⟩, 62) := ⟨⟨by decide +kernel, by decide +kernel⟩, List.mem_of_getElem? (i := 860) (by decide +kernel), List.mem_of_getElem? (i := 1213) (by decide +kernel), List.mem_of_getElem? (i := 1214) (by decide +kernel)⟩
theorem lw_p69 : lw_okq (⟨"TestHallModel", "placeOf", "(I)I"⟩, 62) := ⟨⟨by decide +kernel, by decide +kernel⟩, List.mem_of_getElem? (i := 860) (by decide +kernel), List.mem_of_getElem? (i := 1241) (by decide +kernel), List.mem_of_getElem? (i := 1242) (by decide +kernel)⟩
theorem lw_p70 : lw_okq (⟨"TestHallModel", "streetsAt", "(I)I"⟩, 62) := ⟨⟨by decide +kernel, by decide +kernel⟩, List.mem_of_getElem? (i := 860) (by decide +kernel), List.mem_of_getElem? (i := 1253) (by decide +kernel), List.mem_of_getElem? (i := 1254) (by decide +kernel)⟩
theorem lw_p71 : lw_okq (⟨"TestHallModel", "countAll", "(IIII)I"⟩, 62) := ⟨⟨by decide +kernel, by decide +kernel⟩, List.mem_of_getElem? (i := 860) (by decide +kernel), List.mem_of_getElem? (i := 1268) (by decide +kernel), List.mem_of_getElem? (i := 1269) (by decide +kernel)⟩
theorem lw_p72 : lw_okq (⟨"TestHallModel", "goes", "(III)V"⟩, 62) := ⟨⟨by decide +kernel, by decide +kernel⟩, List.mem_of_getElem? (i := 860) (by decide +kernel), List.mem_of_getElem? (i := 1272) (by decide +kernel), List.mem_of_getElem? (i := 1273) (by decide +kernel)⟩
theorem lw_p73 : lw_okq (⟨"TestHallModel", "ends", "(II)V"⟩, 62) := ⟨⟨by decide +kernel, by decide +kernel⟩, List.mem_of_getElem? (i := 860) (by decide +kernel), List.mem_of_getElem? (i := 1276) (by decide +kernel), List.mem_of_getElem? (i := 1277) (by decide +kernel)⟩
theorem lw_p74 : lw_okq (⟨"TestHallModel", "learnersThat", "(I)I"⟩, 62) := ⟨⟨by decide +kernel, by decide +kernel⟩, List.mem_of_getElem? (i := 860) (by decide +kernel), List.mem_of_getElem? (i := 1297) (by decide +kernel), List.mem_of_getElem? (i := 1298) (by decide +kernel)⟩
def lw_privs_5 : List (MethodName × Nat) := [(⟨"TestHallModel", "suits", "(II)Z"⟩, 62), (⟨"TestHallModel", "books", "(II)V"⟩, 62), (⟨"TestHallModel", "isLearner", "(I)Z"⟩, 62), (⟨"TestHallModel", "waits", "(I)V"⟩, 62), (⟨"TestHallModel", "movesUp", "(I)I"⟩, 62), (⟨"TestHallModel", "placeOf", "(I)I"⟩, 62), (⟨"TestHallModel", "streetsAt", "(I)I"⟩, 62), (⟨"TestHallModel", "countAll", "(IIII)I"⟩, 62), (⟨"TestHallModel", "goes", "(III)V"⟩, 62), (⟨"TestHallModel", "ends", "(II)V"⟩, 62), (⟨"TestHallModel", "learnersThat", "(I)I"⟩, 62)]
theorem lw_r5 : ∀ q ∈ lw_privs_5, lw_okq q := List.forall_mem_cons.mpr ⟨lw_p64, List.forall_mem_cons.mpr ⟨lw_p65, List.forall_mem_cons.mpr ⟨lw_p66, List.forall_mem_cons.mpr ⟨lw_p67, List.forall_mem_cons.mpr ⟨lw_p68, List.forall_mem_cons.mpr ⟨lw_p69, List.forall_mem_cons.mpr ⟨lw_p70, List.forall_mem_cons.mpr ⟨lw_p71, List.forall_mem_cons.mpr ⟨lw_p72, List.forall_mem_cons.mpr ⟨lw_p73, List.forall_mem_cons.mpr ⟨lw_p74, fun _ h => absurd h List.not_mem_nil⟩⟩⟩⟩⟩⟩⟩⟩⟩⟩⟩
def lw_privs : List (MethodName × Nat) := lw_privs_1 ++ (lw_privs_2 ++ (lw_privs_3 ++ (lw_privs_4 ++ (lw_privs_5))))
def lw_tbl : List Cond := k2_sels lw_privs ++ tables_1
theorem lw_privs_ok : ∀ q ∈ lw_privs, lw_okq q := by
  show ∀ q ∈ lw_privs_1 ++ (lw_privs_2 ++ (lw_privs_3 ++ (lw_privs_4 ++ (lw_privs_5)))), lw_okq q
  exact List.forall_mem_append.mpr ⟨lw_r1, List.forall_mem_append.mpr ⟨lw_r2, List.forall_mem_append.mpr ⟨lw_r3, List.forall_mem_append.mpr ⟨lw_r4, lw_r5⟩⟩⟩⟩
end
section
/-! ===== BEGIN words of one list among another's, by their places ===== -/
theorem goodIn_r {big : List Cond} (ws : List Cond) (ps : List Nat) (hp : ws = ps.filterMap (fun i => big[i]?)) (h : ws.all goodWord = true) : GoodIn big ws := by
  intro w hw
  have h1 := List.all_eq_true.mp h w hw
  rw [hp] at hw
  obtain ⟨i, -, hi⟩ := List.mem_filterMap.mp hw
  have hm : w ∈ big := by first | exact List.mem_of_getElem? hi | exact List.getElem?_mem hi
  exact ⟨hm, good_of_word h1⟩
theorem goodIn_app {big a b : List Cond} (ha : GoodIn big a) (hb : GoodIn big b) : GoodIn big (a ++ b) := fun w h => (List.mem_append.mp h).elim (ha w) (hb w)
theorem goodIn_ca {big a b : List Cond} {c : Cond} (ha : GoodIn big (c :: a)) (hb : GoodIn big b) : GoodIn big (c :: (a ++ b)) := fun w h => (List.mem_cons.mp h).elim (fun e => ha w (List.mem_cons.mpr (Or.inl e))) (fun h => (List.mem_append.mp h).elim (fun h => ha w (List.mem_cons.mpr (Or.inr h))) (hb w))
theorem goodIn_sub {big ws : List Cond} (hm : ∀ w ∈ ws, w ∈ big) (h : ws.all goodWord = true) : GoodIn big ws := fun w hw => ⟨hm w hw, good_of_word (List.all_eq_true.mp h w hw)⟩
/-! ===== END ===== -/

def vx_no (w : Cond) : Bool := decide (w ≠ .isRef (.static Bundle.tN "UNASSIGNED_STACK" Bundle.steD)) && decide (w ≠ .isRef (.static Bundle.tN "SUPPRESSED_SENTINEL" Bundle.listD)) && decide (w ≠ .laysStatic Bundle.tN "UNASSIGNED_STACK" Bundle.steD) && decide (w ≠ .laysStatic Bundle.tN "SUPPRESSED_SENTINEL" Bundle.listD)
def vx_at0 (own : String) (ic : Nat) (X : String) (names : List String) : List Cond := (Bundle.ownAtoms0 own ic X names).filter vx_no
def vx_atS (own : String) (ic : Nat) (X : String) (names : List String) : List Cond := (Bundle.ownAtoms own ic X names).filter vx_no
end
section
/-! ===== BEGIN printed: names, fields, word lists, decode rows ===== -/
def RX0 : String := "TestHall$Calendar"
def TX0 : u_T := fun k => match k with
  | 0 => ("TestHall$Calendar", "towns", "[I", true)
  | 1 => ("TestHall$Calendar", "shutDays", "[Z", true)
  | 2 => ("TestHall$Calendar", "booked", "[I", true)
  | 3 => ("TestHall$Calendar", "tests", "[I", true)
  | 4 => ("TestHall$Calendar", "passes", "[I", true)
  | 5 => ("TestHall$Calendar", "examiners", "I", false)
  | 6 => ("TestHall$Calendar", "now", "I", false)
  | 7 => ("TestHall$Calendar", "allTests", "I", false)
  | _ => ("TestHall$Calendar", "allPasses", "I", false)
def tyX0 : Nat → FieldType := fun k => match k with
  | 0 => .array .int
  | 1 => .array .boolean
  | 2 => .array .int
  | 3 => .array .int
  | 4 => .array .int
  | 5 => .int
  | 6 => .int
  | 7 => .int
  | _ => .int
abbrev wsX00 : List Cond := u_ws RX0 TX0 9
theorem nmX0 : ∀ a, a < 9 → ∀ b, b < 9 → a ≠ b → (TX0 a).2.1 ≠ (TX0 b).2.1 := by decide +kernel
theorem tyX0_ok : ∀ k, k < 9 → parseFieldDescriptor (TX0 k).2.2.1 = some (tyX0 k) := by decide +kernel
abbrev cX0_init : ByteArray := prog_2_method_1_code
def yX0_init : MethodName := ⟨RX0, "<init>", "()V"⟩
abbrev cX0_addExaminer : ByteArray := prog_2_method_2_code
def yX0_addExaminer : MethodName := ⟨RX0, "addExaminer", "()I"⟩
abbrev cX0_isExaminer : ByteArray := prog_2_method_3_code
def yX0_isExaminer : MethodName := ⟨RX0, "isExaminer", "(I)Z"⟩
abbrev cX0_setTown : ByteArray := prog_2_method_4_code
def yX0_setTown : MethodName := ⟨RX0, "setTown", "(III)V"⟩
abbrev cX0_townOf : ByteArray := prog_2_method_5_code
def yX0_townOf : MethodName := ⟨RX0, "townOf", "(II)I"⟩
abbrev cX0_shutDay : ByteArray := prog_2_method_6_code
def yX0_shutDay : MethodName := ⟨RX0, "shutDay", "(I)V"⟩
abbrev cX0_isShut : ByteArray := prog_2_method_7_code
def yX0_isShut : MethodName := ⟨RX0, "isShut", "(I)Z"⟩
abbrev cX0_hasHour : ByteArray := prog_2_method_8_code
def yX0_hasHour : MethodName := ⟨RX0, "hasHour", "(III)Z"⟩
abbrev cX0_isTravel : ByteArray := prog_2_method_9_code
def yX0_isTravel : MethodName := ⟨RX0, "isTravel", "(II)Z"⟩
abbrev cX0_isSlot : ByteArray := prog_2_method_10_code
def yX0_isSlot : MethodName := ⟨RX0, "isSlot", "(I)Z"⟩
abbrev cX0_bookedIn : ByteArray := prog_2_method_11_code
def yX0_bookedIn : MethodName := ⟨RX0, "bookedIn", "(I)I"⟩
abbrev cX0_setBooked : ByteArray := prog_2_method_12_code
def yX0_setBooked : MethodName := ⟨RX0, "setBooked", "(II)V"⟩
abbrev cX0_isFree : ByteArray := prog_2_method_13_code
def yX0_isFree : MethodName := ⟨RX0, "isFree", "(I)Z"⟩
abbrev cX0_leastFree : ByteArray := prog_2_method_14_code
def yX0_leastFree : MethodName := ⟨RX0, "leastFree", "(III)I"⟩
abbrev cX0_leastFreeOn : ByteArray := prog_2_method_15_code
def yX0_leastFreeOn : MethodName := ⟨RX0, "leastFreeOn", "(II)I"⟩
abbrev cX0_firstFreeOf : ByteArray := prog_2_method_16_code
def yX0_firstFreeOf : MethodName := ⟨RX0, "firstFreeOf", "(II)I"⟩
abbrev cX0_noteTest : ByteArray := prog_2_method_17_code
def yX0_noteTest : MethodName := ⟨RX0, "noteTest", "(IZ)V"⟩
abbrev cX0_testsOf : ByteArray := prog_2_method_18_code
def yX0_testsOf : MethodName := ⟨RX0, "testsOf", "(I)I"⟩
abbrev cX0_passesOf : ByteArray := prog_2_method_19_code
def yX0_passesOf : MethodName := ⟨RX0, "passesOf", "(I)I"⟩
abbrev cX0_difference : ByteArray := prog_2_method_20_code
def yX0_difference : MethodName := ⟨RX0, "difference", "(II)I"⟩
def RX1 : String := "TestHall$Learner"
def TX1 : u_T := fun k => match k with
  | 0 => ("TestHall$Learner", "number", "I", true)
  | 1 => ("TestHall$Learner", "came", "I", true)
  | 2 => ("TestHall$Learner", "town", "I", false)
  | 3 => ("TestHall$Learner", "sort", "I", false)
  | 4 => ("TestHall$Learner", "from", "I", false)
  | 5 => ("TestHall$Learner", "to", "I", false)
  | 6 => ("TestHall$Learner", "wish", "I", false)
  | 7 => ("TestHall$Learner", "sooner", "Z", false)
  | 8 => ("TestHall$Learner", "state", "I", false)
  | 9 => ("TestHall$Learner", "slot", "I", false)
  | 10 => ("TestHall$Learner", "tries", "I", false)
  | _ => ("TestHall$Learner", "movedUp", "I", false)
def tyX1 : Nat → FieldType := fun k => match k with
  | 0 => .int
  | 1 => .int
  | 2 => .int
  | 3 => .int
  | 4 => .int
  | 5 => .int
  | 6 => .int
  | 7 => .boolean
  | 8 => .int
  | 9 => .int
  | 10 => .int
  | _ => .int
abbrev wsX10 : List Cond := u_ws RX1 TX1 12
theorem nmX1 : ∀ a, a < 12 → ∀ b, b < 12 → a ≠ b → (TX1 a).2.1 ≠ (TX1 b).2.1 := by decide +kernel
theorem tyX1_ok : ∀ k, k < 12 → parseFieldDescriptor (TX1 k).2.2.1 = some (tyX1 k) := by decide +kernel
abbrev cX1_init : ByteArray := prog_3_method_1_code
def yX1_init : MethodName := ⟨RX1, "<init>", "(II)V"⟩
def RX2 : String := "TestHall$Line"
def TX2 : u_T := fun k => match k with
  | 0 => ("TestHall$Line", "numbers", "[I", true)
  | 1 => ("TestHall$Line", "ranks", "[I", true)
  | _ => ("TestHall$Line", "size", "I", false)
def tyX2 : Nat → FieldType := fun k => match k with
  | 0 => .array .int
  | 1 => .array .int
  | _ => .int
abbrev wsX20 : List Cond := u_ws RX2 TX2 3
theorem nmX2 : ∀ a, a < 3 → ∀ b, b < 3 → a ≠ b → (TX2 a).2.1 ≠ (TX2 b).2.1 := by decide +kernel
theorem tyX2_ok : ∀ k, k < 3 → parseFieldDescriptor (TX2 k).2.2.1 = some (tyX2 k) := by decide +kernel
abbrev cX2_init : ByteArray := prog_4_method_1_code
def yX2_init : MethodName := ⟨RX2, "<init>", "()V"⟩
abbrev cX2_clear : ByteArray := prog_4_method_2_code
def yX2_clear : MethodName := ⟨RX2, "clear", "()V"⟩
abbrev cX2_add : ByteArray := prog_4_method_3_code
def yX2_add : MethodName := ⟨RX2, "add", "(II)V"⟩
abbrev cX2_placeOf : ByteArray := prog_4_method_4_code
def yX2_placeOf : MethodName := ⟨RX2, "placeOf", "(I)I"⟩
def RX3 : String := "TestHall$Streets"
def TX3 : u_T := fun k => match k with
  | 0 => ("TestHall$Streets", "ends", "[I", true)
  | 1 => ("TestHall$Streets", "otherEnds", "[I", true)
  | 2 => ("TestHall$Streets", "minutesOf", "[I", true)
  | 3 => ("TestHall$Streets", "marksOf", "[I", true)
  | 4 => ("TestHall$Streets", "closed", "[Z", true)
  | 5 => ("TestHall$Streets", "streetsAt", "[[I", true)
  | 6 => ("TestHall$Streets", "sizeAt", "[I", true)
  | 7 => ("TestHall$Streets", "path", "[I", true)
  | 8 => ("TestHall$Streets", "drawn", "[I", true)
  | 9 => ("TestHall$Streets", "size", "I", false)
  | 10 => ("TestHall$Streets", "drawnParts", "I", false)
  | 11 => ("TestHall$Streets", "least", "I", false)
  | 12 => ("TestHall$Streets", "most", "I", false)
  | 13 => ("TestHall$Streets", "wanted", "I", false)
  | 14 => ("TestHall$Streets", "found", "I", false)
  | 15 => ("TestHall$Streets", "target", "I", false)
  | 16 => ("TestHall$Streets", "foundParts", "I", false)
  | _ => ("TestHall$Streets", "foundMinutes", "I", false)
def tyX3 : Nat → FieldType := fun k => match k with
  | 0 => .array .int
  | 1 => .array .int
  | 2 => .array .int
  | 3 => .array .int
  | 4 => .array .boolean
  | 5 => .array (.array .int)
  | 6 => .array .int
  | 7 => .array .int
  | 8 => .array .int
  | 9 => .int
  | 10 => .int
  | 11 => .int
  | 12 => .int
  | 13 => .int
  | 14 => .int
  | 15 => .int
  | 16 => .int
  | _ => .int
abbrev wsX30 : List Cond := u_ws RX3 TX3 18
theorem nmX3 : ∀ a, a < 18 → ∀ b, b < 18 → a ≠ b → (TX3 a).2.1 ≠ (TX3 b).2.1 := by decide +kernel
theorem tyX3_ok : ∀ k, k < 18 → parseFieldDescriptor (TX3 k).2.2.1 = some (tyX3 k) := by decide +kernel
abbrev cX3_init : ByteArray := prog_5_method_1_code
def yX3_init : MethodName := ⟨RX3, "<init>", "()V"⟩
abbrev cX3_add : ByteArray := prog_5_method_2_code
def yX3_add : MethodName := ⟨RX3, "add", "(IIII)I"⟩
abbrev cX3_hasRoomAt : ByteArray := prog_5_method_3_code
def yX3_hasRoomAt : MethodName := ⟨RX3, "hasRoomAt", "(I)Z"⟩
abbrev cX3_putAt : ByteArray := prog_5_method_4_code
def yX3_putAt : MethodName := ⟨RX3, "putAt", "(II)V"⟩
abbrev cX3_setClosed : ByteArray := prog_5_method_5_code
def yX3_setClosed : MethodName := ⟨RX3, "setClosed", "(IZ)Z"⟩
abbrev cX3_countRoutes : ByteArray := prog_5_method_6_code
def yX3_countRoutes : MethodName := ⟨RX3, "countRoutes", "(III)I"⟩
abbrev cX3_draw : ByteArray := prog_5_method_7_code
def yX3_draw : MethodName := ⟨RX3, "draw", "(IIII)I"⟩
abbrev cX3_drawnStreet : ByteArray := prog_5_method_8_code
def yX3_drawnStreet : MethodName := ⟨RX3, "drawnStreet", "(I)I"⟩
abbrev cX3_search : ByteArray := prog_5_method_9_code
def yX3_search : MethodName := ⟨RX3, "search", "(I)V"⟩
abbrev cX3_walk : ByteArray := prog_5_method_10_code
def yX3_walk : MethodName := ⟨RX3, "walk", "(IIIII)Z"⟩
abbrev cX3_isTarget : ByteArray := prog_5_method_11_code
def yX3_isTarget : MethodName := ⟨RX3, "isTarget", "(III)Z"⟩
def RX4 : String := "TestHall$Tape"
def TX4 : u_T := fun k => match k with
  | 0 => ("TestHall$Tape", "signs", "[C", true)
  | _ => ("TestHall$Tape", "length", "I", false)
def tyX4 : Nat → FieldType := fun k => match k with
  | 0 => .array .char
  | _ => .int
abbrev wsX40 : List Cond := u_ws RX4 TX4 2
theorem nmX4 : ∀ a, a < 2 → ∀ b, b < 2 → a ≠ b → (TX4 a).2.1 ≠ (TX4 b).2.1 := by decide +kernel
theorem tyX4_ok : ∀ k, k < 2 → parseFieldDescriptor (TX4 k).2.2.1 = some (tyX4 k) := by decide +kernel
abbrev cX4_init : ByteArray := prog_6_method_1_code
def yX4_init : MethodName := ⟨RX4, "<init>", "()V"⟩
abbrev cX4_addEight : ByteArray := prog_6_method_2_code
def yX4_addEight : MethodName := ⟨RX4, "addEight", "(J)V"⟩
def RX5 : String := "TestHall$Text"
def TX5 : u_T := fun k => match k with
  | 0 => ("TestHall$Text", "firsts", "[I", true)
  | 1 => ("TestHall$Text", "ends", "[I", true)
  | 2 => ("TestHall$Text", "codes", "[I", true)
  | 3 => ("TestHall$Text", "stack", "[I", true)
  | 4 => ("TestHall$Text", "lines", "I", false)
  | _ => ("TestHall$Text", "size", "I", false)
def tyX5 : Nat → FieldType := fun k => match k with
  | 0 => .array .int
  | 1 => .array .int
  | 2 => .array .int
  | 3 => .array .int
  | 4 => .int
  | _ => .int
abbrev wsX50 : List Cond := u_ws RX5 TX5 6
theorem nmX5 : ∀ a, a < 6 → ∀ b, b < 6 → a ≠ b → (TX5 a).2.1 ≠ (TX5 b).2.1 := by decide +kernel
theorem tyX5_ok : ∀ k, k < 6 → parseFieldDescriptor (TX5 k).2.2.1 = some (tyX5 k) := by decide +kernel
abbrev cX5_init : ByteArray := prog_7_method_1_code
def yX5_init : MethodName := ⟨RX5, "<init>", "()V"⟩
abbrev cX5_clear : ByteArray := prog_7_method_2_code
def yX5_clear : MethodName := ⟨RX5, "clear", "()V"⟩
abbrev cX5_addCode : ByteArray := prog_7_method_3_code
def yX5_addCode : MethodName := ⟨RX5, "addCode", "(I)V"⟩
abbrev cX5_addLine : ByteArray := prog_7_method_4_code
def yX5_addLine : MethodName := ⟨RX5, "addLine", "(I)V"⟩
abbrev cX5_rankBy : ByteArray := prog_7_method_5_code
def yX5_rankBy : MethodName := ⟨RX5, "rankBy", "([I)I"⟩
abbrev cX5_valueOf : ByteArray := prog_7_method_6_code
def yX5_valueOf : MethodName := ⟨RX5, "valueOf", "(II[I)I"⟩
abbrev cX5_joined : ByteArray := prog_7_method_7_code
def yX5_joined : MethodName := ⟨RX5, "joined", "(III)I"⟩
def RX6 : String := "TestHall$TextReader"
def TX6 : u_T := fun k => match k with
  | 0 => ("TestHall$TextReader", "tokens", "[I", true)
  | 1 => ("TestHall$TextReader", "places", "[I", true)
  | 2 => ("TestHall$TextReader", "size", "I", false)
  | 3 => ("TestHall$TextReader", "next", "I", false)
  | 4 => ("TestHall$TextReader", "fault", "I", false)
  | 5 => ("TestHall$TextReader", "signs", "[C", false)
  | 6 => ("TestHall$TextReader", "length", "I", false)
  | _ => ("TestHall$TextReader", "text", "LTestHall$Text;", false)
def tyX6 : Nat → FieldType := fun k => match k with
  | 0 => .array .int
  | 1 => .array .int
  | 2 => .int
  | 3 => .int
  | 4 => .int
  | 5 => .array .char
  | 6 => .int
  | _ => .object "TestHall$Text"
abbrev wsX60 : List Cond := u_ws RX6 TX6 8
theorem nmX6 : ∀ a, a < 8 → ∀ b, b < 8 → a ≠ b → (TX6 a).2.1 ≠ (TX6 b).2.1 := by decide +kernel
theorem tyX6_ok : ∀ k, k < 8 → parseFieldDescriptor (TX6 k).2.2.1 = some (tyX6 k) := by decide +kernel
abbrev cX6_init : ByteArray := prog_8_method_1_code
def yX6_init : MethodName := ⟨RX6, "<init>", "()V"⟩
abbrev cX6_read : ByteArray := prog_8_method_2_code
def yX6_read : MethodName := ⟨RX6, "read", "(LTestHall$Tape;LTestHall$Text;)I"⟩
abbrev cX6_placeOfNext : ByteArray := prog_8_method_3_code
def yX6_placeOfNext : MethodName := ⟨RX6, "placeOfNext", "()I"⟩
abbrev cX6_peek : ByteArray := prog_8_method_4_code
def yX6_peek : MethodName := ⟨RX6, "peek", "()I"⟩
abbrev cX6_take : ByteArray := prog_8_method_5_code
def yX6_take : MethodName := ⟨RX6, "take", "(I)Z"⟩
abbrev cX6_readLine : ByteArray := prog_8_method_6_code
def yX6_readLine : MethodName := ⟨RX6, "readLine", "()Z"⟩
abbrev cX6_readCondition : ByteArray := prog_8_method_7_code
def yX6_readCondition : MethodName := ⟨RX6, "readCondition", "(I)Z"⟩
abbrev cX6_readTest : ByteArray := prog_8_method_8_code
def yX6_readTest : MethodName := ⟨RX6, "readTest", "(I)Z"⟩
abbrev cX6_readSum : ByteArray := prog_8_method_9_code
def yX6_readSum : MethodName := ⟨RX6, "readSum", "(I)Z"⟩
abbrev cX6_readPart : ByteArray := prog_8_method_10_code
def yX6_readPart : MethodName := ⟨RX6, "readPart", "(I)Z"⟩
abbrev cX6_scan : ByteArray := prog_8_method_11_code
def yX6_scan : MethodName := ⟨RX6, "scan", "()V"⟩
abbrev cX6_addToken : ByteArray := prog_8_method_12_code
def yX6_addToken : MethodName := ⟨RX6, "addToken", "(II)V"⟩
abbrev cX6_endOf : ByteArray := prog_8_method_13_code
def yX6_endOf : MethodName := ⟨RX6, "endOf", "(I)I"⟩
abbrev cX6_tokenOf : ByteArray := prog_8_method_14_code
def yX6_tokenOf : MethodName := ⟨RX6, "tokenOf", "(II)I"⟩
abbrev cX6_wordOf : ByteArray := prog_8_method_15_code
def yX6_wordOf : MethodName := ⟨RX6, "wordOf", "(II)I"⟩
abbrev cX6_isSpelt : ByteArray := prog_8_method_16_code
def yX6_isSpelt : MethodName := ⟨RX6, "isSpelt", "(IILjava/lang/String;)Z"⟩
abbrev cX6_numberOf : ByteArray := prog_8_method_17_code
def yX6_numberOf : MethodName := ⟨RX6, "numberOf", "(II)I"⟩
abbrev cX6_signOf : ByteArray := prog_8_method_18_code
def yX6_signOf : MethodName := ⟨RX6, "signOf", "(C)I"⟩
abbrev cX6_isBlank : ByteArray := prog_8_method_19_code
def yX6_isBlank : MethodName := ⟨RX6, "isBlank", "(C)Z"⟩
abbrev cX6_isLetter : ByteArray := prog_8_method_20_code
def yX6_isLetter : MethodName := ⟨RX6, "isLetter", "(C)Z"⟩
abbrev cX6_isDigit : ByteArray := prog_8_method_21_code
def yX6_isDigit : MethodName := ⟨RX6, "isDigit", "(C)Z"⟩
def RX7 : String := "TestHall$Token"
def TX7 : u_T := fun k => match k with
  | _ => ("", "", "", false)
def tyX7 : Nat → FieldType := fun k => match k with
  | _ => .int
abbrev wsX70 : List Cond := u_ws RX7 TX7 0
theorem nmX7 : ∀ a, a < 0 → ∀ b, b < 0 → a ≠ b → (TX7 a).2.1 ≠ (TX7 b).2.1 := by decide +kernel
theorem tyX7_ok : ∀ k, k < 0 → parseFieldDescriptor (TX7 k).2.2.1 = some (tyX7 k) := by decide +kernel
def RX8 : String := "TestHall"
def TX8 : u_T := fun k => match k with
  | 0 => ("TestHall", "calendar", "LTestHall$Calendar;", true)
  | 1 => ("TestHall", "learners", "[LTestHall$Learner;", true)
  | 2 => ("TestHall", "line", "LTestHall$Line;", true)
  | 3 => ("TestHall", "facts", "[I", true)
  | 4 => ("TestHall", "tape", "LTestHall$Tape;", true)
  | 5 => ("TestHall", "reader", "LTestHall$TextReader;", true)
  | 6 => ("TestHall", "streets", "LTestHall$Streets;", true)
  | 7 => ("TestHall", "order", "LTestHall$Text;", false)
  | 8 => ("TestHall", "spare", "LTestHall$Text;", false)
  | _ => ("TestHall", "learnerCount", "I", false)
def tyX8 : Nat → FieldType := fun k => match k with
  | 0 => .object "TestHall$Calendar"
  | 1 => .array (.object "TestHall$Learner")
  | 2 => .object "TestHall$Line"
  | 3 => .array .int
  | 4 => .object "TestHall$Tape"
  | 5 => .object "TestHall$TextReader"
  | 6 => .object "TestHall$Streets"
  | 7 => .object "TestHall$Text"
  | 8 => .object "TestHall$Text"
  | _ => .int
abbrev wsX80 : List Cond := u_ws RX8 TX8 10
theorem nmX8 : ∀ a, a < 10 → ∀ b, b < 10 → a ≠ b → (TX8 a).2.1 ≠ (TX8 b).2.1 := by decide +kernel
theorem tyX8_ok : ∀ k, k < 10 → parseFieldDescriptor (TX8 k).2.2.1 = some (tyX8 k) := by decide +kernel
abbrev cX8_init : ByteArray := prog_1_method_1_code
def yX8_init : MethodName := ⟨RX8, "<init>", "()V"⟩
abbrev cX8_examiner : ByteArray := prog_1_method_2_code
def yX8_examiner : MethodName := ⟨RX8, "examiner", "()I"⟩
abbrev cX8_place : ByteArray := prog_1_method_3_code
def yX8_place : MethodName := ⟨RX8, "place", "(IIII)I"⟩
abbrev cX8_learner : ByteArray := prog_1_method_4_code
def yX8_learner : MethodName := ⟨RX8, "learner", "(IIIIIZ)I"⟩
abbrev cX8_feed : ByteArray := prog_1_method_5_code
def yX8_feed : MethodName := ⟨RX8, "feed", "(JJJ)I"⟩
abbrev cX8_text : ByteArray := prog_1_method_6_code
def yX8_text : MethodName := ⟨RX8, "text", "()I"⟩
abbrev cX8_deal : ByteArray := prog_1_method_7_code
def yX8_deal : MethodName := ⟨RX8, "deal", "()I"⟩
abbrev cX8_cancel : ByteArray := prog_1_method_8_code
def yX8_cancel : MethodName := ⟨RX8, "cancel", "(I)I"⟩
abbrev cX8_leave : ByteArray := prog_1_method_9_code
def yX8_leave : MethodName := ⟨RX8, "leave", "(I)Z"⟩
abbrev cX8_shut : ByteArray := prog_1_method_10_code
def yX8_shut : MethodName := ⟨RX8, "shut", "(I)I"⟩
abbrev cX8_days : ByteArray := prog_1_method_11_code
def yX8_days : MethodName := ⟨RX8, "days", "(I)I"⟩
abbrev cX8_held : ByteArray := prog_1_method_12_code
def yX8_held : MethodName := ⟨RX8, "held", "(IZ)Z"⟩
abbrev cX8_look : ByteArray := prog_1_method_13_code
def yX8_look : MethodName := ⟨RX8, "look", "(II)I"⟩
abbrev cX8_at : ByteArray := prog_1_method_14_code
def yX8_at : MethodName := ⟨RX8, "at", "(III)I"⟩
abbrev cX8_street : ByteArray := prog_1_method_15_code
def yX8_street : MethodName := ⟨RX8, "street", "(IIII)I"⟩
abbrev cX8_close : ByteArray := prog_1_method_16_code
def yX8_close : MethodName := ⟨RX8, "close", "(IZ)Z"⟩
abbrev cX8_routes : ByteArray := prog_1_method_17_code
def yX8_routes : MethodName := ⟨RX8, "routes", "(III)I"⟩
abbrev cX8_route : ByteArray := prog_1_method_18_code
def yX8_route : MethodName := ⟨RX8, "route", "(IIII)I"⟩
abbrev cX8_part : ByteArray := prog_1_method_19_code
def yX8_part : MethodName := ⟨RX8, "part", "(I)I"⟩
abbrev cX8_differs : ByteArray := prog_1_method_20_code
def yX8_differs : MethodName := ⟨RX8, "differs", "(II)I"⟩
abbrev cX8_count : ByteArray := prog_1_method_21_code
def yX8_count : MethodName := ⟨RX8, "count", "(I)I"⟩
abbrev cX8_load : ByteArray := prog_1_method_22_code
def yX8_load : MethodName := ⟨RX8, "load", "(II)I"⟩
abbrev cX8_isWithin : ByteArray := prog_1_method_23_code
def yX8_isWithin : MethodName := ⟨RX8, "isWithin", "(III)Z"⟩
abbrev cX8_isDay : ByteArray := prog_1_method_24_code
def yX8_isDay : MethodName := ⟨RX8, "isDay", "(I)Z"⟩
abbrev cX8_slotOf : ByteArray := prog_1_method_25_code
def yX8_slotOf : MethodName := ⟨RX8, "slotOf", "(III)I"⟩
abbrev cX8_dayOf : ByteArray := prog_1_method_26_code
def yX8_dayOf : MethodName := ⟨RX8, "dayOf", "(I)I"⟩
abbrev cX8_hourOf : ByteArray := prog_1_method_27_code
def yX8_hourOf : MethodName := ⟨RX8, "hourOf", "(I)I"⟩
abbrev cX8_examinerOf : ByteArray := prog_1_method_28_code
def yX8_examinerOf : MethodName := ⟨RX8, "examinerOf", "(I)I"⟩
abbrev cX8_find : ByteArray := prog_1_method_29_code
def yX8_find : MethodName := ⟨RX8, "find", "(I)LTestHall$Learner;"⟩
abbrev cX8_book : ByteArray := prog_1_method_30_code
def yX8_book : MethodName := ⟨RX8, "book", "(LTestHall$Learner;I)V"⟩
abbrev cX8_release : ByteArray := prog_1_method_31_code
def yX8_release : MethodName := ⟨RX8, "release", "(LTestHall$Learner;)V"⟩
abbrev cX8_releaseMisplaced : ByteArray := prog_1_method_32_code
def yX8_releaseMisplaced : MethodName := ⟨RX8, "releaseMisplaced", "(I)I"⟩
abbrev cX8_isStillThere : ByteArray := prog_1_method_33_code
def yX8_isStillThere : MethodName := ⟨RX8, "isStillThere", "(LTestHall$Learner;)Z"⟩
abbrev cX8_rankOf : ByteArray := prog_1_method_34_code
def yX8_rankOf : MethodName := ⟨RX8, "rankOf", "(LTestHall$Learner;)I"⟩
abbrev cX8_lineUpWaiting : ByteArray := prog_1_method_35_code
def yX8_lineUpWaiting : MethodName := ⟨RX8, "lineUpWaiting", "()V"⟩
abbrev cX8_placeAmongWaiting : ByteArray := prog_1_method_36_code
def yX8_placeAmongWaiting : MethodName := ⟨RX8, "placeAmongWaiting", "(LTestHall$Learner;)I"⟩
abbrev cX8_dealLine : ByteArray := prog_1_method_37_code
def yX8_dealLine : MethodName := ⟨RX8, "dealLine", "()I"⟩
abbrev cX8_moveUp : ByteArray := prog_1_method_38_code
def yX8_moveUp : MethodName := ⟨RX8, "moveUp", "(I)I"⟩
abbrev cX8_lineUpSooner : ByteArray := prog_1_method_39_code
def yX8_lineUpSooner : MethodName := ⟨RX8, "lineUpSooner", "()V"⟩
abbrev cX8_firstToMove : ByteArray := prog_1_method_40_code
def yX8_firstToMove : MethodName := ⟨RX8, "firstToMove", "(I)LTestHall$Learner;"⟩
abbrev cX8_isSuiting : ByteArray := prog_1_method_41_code
def yX8_isSuiting : MethodName := ⟨RX8, "isSuiting", "(ILTestHall$Learner;)Z"⟩
abbrev cX8_countOfState : ByteArray := prog_1_method_42_code
def yX8_countOfState : MethodName := ⟨RX8, "countOfState", "(I)I"⟩
abbrev cX8_countBookedWith : ByteArray := prog_1_method_43_code
def yX8_countBookedWith : MethodName := ⟨RX8, "countBookedWith", "(I)I"⟩
def RX9 : String := "TestHallModel"
def TX9 : u_T := fun k => match k with
  | 0 => ("TestHallModel", "thrown", "I", false)
  | 1 => ("TestHallModel", "tape", "[I", true)
  | 2 => ("TestHallModel", "taped", "I", false)
  | 3 => ("TestHallModel", "size", "I", false)
  | 4 => ("TestHallModel", "sort", "[I", true)
  | 5 => ("TestHallModel", "place", "[I", true)
  | 6 => ("TestHallModel", "value", "[J", true)
  | 7 => ("TestHallModel", "at", "I", false)
  | 8 => ("TestHallModel", "fault", "I", false)
  | 9 => ("TestHallModel", "words", "[J", true)
  | 10 => ("TestHallModel", "lines", "[I", true)
  | 11 => ("TestHallModel", "lineN", "[I", true)
  | 12 => ("TestHallModel", "lineAt", "[I", true)
  | 13 => ("TestHallModel", "op", "[I", true)
  | 14 => ("TestHallModel", "one", "[I", true)
  | 15 => ("TestHallModel", "holds", "I", false)
  | 16 => ("TestHallModel", "next", "I", false)
  | 17 => ("TestHallModel", "codes", "I", false)
  | 18 => ("TestHallModel", "deep", "I", false)
  | 19 => ("TestHallModel", "sumWaits", "[I", true)
  | 20 => ("TestHallModel", "signWaits", "[I", true)
  | 21 => ("TestHallModel", "andWaits", "[I", true)
  | 22 => ("TestHallModel", "known", "[I", true)
  | 23 => ("TestHallModel", "pile", "[I", true)
  | 24 => ("TestHallModel", "now", "I", false)
  | 25 => ("TestHallModel", "examiners", "I", false)
  | 26 => ("TestHallModel", "town", "[I", true)
  | 27 => ("TestHallModel", "isShut", "[Z", true)
  | 28 => ("TestHallModel", "tests", "[I", true)
  | 29 => ("TestHallModel", "passes", "[I", true)
  | 30 => ("TestHallModel", "learners", "I", false)
  | 31 => ("TestHallModel", "home", "[I", true)
  | 32 => ("TestHallModel", "kind", "[I", true)
  | 33 => ("TestHallModel", "from", "[I", true)
  | 34 => ("TestHallModel", "to", "[I", true)
  | 35 => ("TestHallModel", "wish", "[I", true)
  | 36 => ("TestHallModel", "isSooner", "[Z", true)
  | 37 => ("TestHallModel", "came", "[I", true)
  | 38 => ("TestHallModel", "state", "[I", true)
  | 39 => ("TestHallModel", "slot", "[I", true)
  | 40 => ("TestHallModel", "tries", "[I", true)
  | 41 => ("TestHallModel", "ups", "[I", true)
  | 42 => ("TestHallModel", "held", "I", false)
  | 43 => ("TestHallModel", "rank", "[I", true)
  | 44 => ("TestHallModel", "isDealt", "[Z", true)
  | 45 => ("TestHallModel", "streets", "I", false)
  | 46 => ("TestHallModel", "endA", "[I", true)
  | 47 => ("TestHallModel", "endB", "[I", true)
  | 48 => ("TestHallModel", "minutes", "[I", true)
  | 49 => ("TestHallModel", "marks", "[I", true)
  | 50 => ("TestHallModel", "isClosed", "[Z", true)
  | 51 => ("TestHallModel", "isGone", "[Z", true)
  | 52 => ("TestHallModel", "way", "[I", true)
  | 53 => ("TestHallModel", "wayMany", "I", false)
  | 54 => ("TestHallModel", "drawn", "[I", true)
  | 55 => ("TestHallModel", "drawnMany", "I", false)
  | 56 => ("TestHallModel", "wantLeast", "I", false)
  | 57 => ("TestHallModel", "wantMost", "I", false)
  | 58 => ("TestHallModel", "wantMarks", "I", false)
  | 59 => ("TestHallModel", "found", "I", false)
  | 60 => ("TestHallModel", "wanted", "I", false)
  | _ => ("TestHallModel", "drawnMinutes", "I", false)
def tyX9 : Nat → FieldType := fun k => match k with
  | 0 => .int
  | 1 => .array .int
  | 2 => .int
  | 3 => .int
  | 4 => .array .int
  | 5 => .array .int
  | 6 => .array .long
  | 7 => .int
  | 8 => .int
  | 9 => .array .long
  | 10 => .array .int
  | 11 => .array .int
  | 12 => .array .int
  | 13 => .array .int
  | 14 => .array .int
  | 15 => .int
  | 16 => .int
  | 17 => .int
  | 18 => .int
  | 19 => .array .int
  | 20 => .array .int
  | 21 => .array .int
  | 22 => .array .int
  | 23 => .array .int
  | 24 => .int
  | 25 => .int
  | 26 => .array .int
  | 27 => .array .boolean
  | 28 => .array .int
  | 29 => .array .int
  | 30 => .int
  | 31 => .array .int
  | 32 => .array .int
  | 33 => .array .int
  | 34 => .array .int
  | 35 => .array .int
  | 36 => .array .boolean
  | 37 => .array .int
  | 38 => .array .int
  | 39 => .array .int
  | 40 => .array .int
  | 41 => .array .int
  | 42 => .int
  | 43 => .array .int
  | 44 => .array .boolean
  | 45 => .int
  | 46 => .array .int
  | 47 => .array .int
  | 48 => .array .int
  | 49 => .array .int
  | 50 => .array .boolean
  | 51 => .array .boolean
  | 52 => .array .int
  | 53 => .int
  | 54 => .array .int
  | 55 => .int
  | 56 => .int
  | 57 => .int
  | 58 => .int
  | 59 => .int
  | 60 => .int
  | _ => .int
abbrev wsX90 : List Cond := u_ws RX9 TX9 62
theorem nmX9 : ∀ a, a < 62 → ∀ b, b < 62 → a ≠ b → (TX9 a).2.1 ≠ (TX9 b).2.1 := by decide +kernel
theorem tyX9_ok : ∀ k, k < 62 → parseFieldDescriptor (TX9 k).2.2.1 = some (tyX9 k) := by decide +kernel
abbrev cX9_thrown : ByteArray := prog_11_method_1_code
def yX9_thrown : MethodName := ⟨RX9, "thrown", "()I"⟩
abbrev cX9_feed : ByteArray := prog_11_method_2_code
def yX9_feed : MethodName := ⟨RX9, "feed", "(JJJ)I"⟩
abbrev cX9_lay : ByteArray := prog_11_method_3_code
def yX9_lay : MethodName := ⟨RX9, "lay", "(J)V"⟩
abbrev cX9_init : ByteArray := prog_11_method_4_code
def yX9_init : MethodName := ⟨RX9, "<init>", "()V"⟩
abbrev cX9_isLetter : ByteArray := prog_11_method_5_code
def yX9_isLetter : MethodName := ⟨RX9, "isLetter", "(I)Z"⟩
abbrev cX9_isDigit : ByteArray := prog_11_method_6_code
def yX9_isDigit : MethodName := ⟨RX9, "isDigit", "(I)Z"⟩
abbrev cX9_rank : ByteArray := prog_11_method_7_code
def yX9_rank : MethodName := ⟨RX9, "rank", "(I)I"⟩
abbrev cX9_isSignOf : ByteArray := prog_11_method_8_code
def yX9_isSignOf : MethodName := ⟨RX9, "isSignOf", "(I)Z"⟩
abbrev cX9_cutAll : ByteArray := prog_11_method_9_code
def yX9_cutAll : MethodName := ⟨RX9, "cutAll", "()V"⟩
abbrev cX9_wrong : ByteArray := prog_11_method_10_code
def yX9_wrong : MethodName := ⟨RX9, "wrong", "(I)V"⟩
abbrev cX9_isSign : ByteArray := prog_11_method_11_code
def yX9_isSign : MethodName := ⟨RX9, "isSign", "(I)Z"⟩
abbrev cX9_isWord : ByteArray := prog_11_method_12_code
def yX9_isWord : MethodName := ⟨RX9, "isWord", "(I)Z"⟩
abbrev cX9_takeSign : ByteArray := prog_11_method_13_code
def yX9_takeSign : MethodName := ⟨RX9, "takeSign", "(I)V"⟩
abbrev cX9_hasSign : ByteArray := prog_11_method_14_code
def yX9_hasSign : MethodName := ⟨RX9, "hasSign", "(I)Z"⟩
abbrev cX9_hasWord : ByteArray := prog_11_method_15_code
def yX9_hasWord : MethodName := ⟨RX9, "hasWord", "(I)Z"⟩
abbrev cX9_takeWord : ByteArray := prog_11_method_16_code
def yX9_takeWord : MethodName := ⟨RX9, "takeWord", "(I)V"⟩
abbrev cX9_emit : ByteArray := prog_11_method_17_code
def yX9_emit : MethodName := ⟨RX9, "emit", "(II)V"⟩
abbrev cX9_text : ByteArray := prog_11_method_18_code
def yX9_text : MethodName := ⟨RX9, "text", "()I"⟩
abbrev cX9_line : ByteArray := prog_11_method_19_code
def yX9_line : MethodName := ⟨RX9, "line", "()V"⟩
abbrev cX9_opens : ByteArray := prog_11_method_20_code
def yX9_opens : MethodName := ⟨RX9, "opens", "()V"⟩
abbrev cX9_partWord : ByteArray := prog_11_method_21_code
def yX9_partWord : MethodName := ⟨RX9, "partWord", "()I"⟩
abbrev cX9_part : ByteArray := prog_11_method_22_code
def yX9_part : MethodName := ⟨RX9, "part", "()Z"⟩
abbrev cX9_goesOnBehind : ByteArray := prog_11_method_23_code
def yX9_goesOnBehind : MethodName := ⟨RX9, "goesOnBehind", "()Z"⟩
abbrev cX9_worth : ByteArray := prog_11_method_24_code
def yX9_worth : MethodName := ⟨RX9, "worth", "(I)I"⟩
abbrev cX9_examiner : ByteArray := prog_11_method_25_code
def yX9_examiner : MethodName := ⟨RX9, "examiner", "()I"⟩
abbrev cX9_hasHour : ByteArray := prog_11_method_26_code
def yX9_hasHour : MethodName := ⟨RX9, "hasHour", "(III)Z"⟩
abbrev cX9_isThere : ByteArray := prog_11_method_27_code
def yX9_isThere : MethodName := ⟨RX9, "isThere", "(I)Z"⟩
abbrev cX9_learner : ByteArray := prog_11_method_28_code
def yX9_learner : MethodName := ⟨RX9, "learner", "(IIIIIZ)I"⟩
abbrev cX9_isLearner : ByteArray := prog_11_method_29_code
def yX9_isLearner : MethodName := ⟨RX9, "isLearner", "(I)Z"⟩
abbrev cX9_bookedAt : ByteArray := prog_11_method_30_code
def yX9_bookedAt : MethodName := ⟨RX9, "bookedAt", "(I)I"⟩
abbrev cX9_isFree : ByteArray := prog_11_method_31_code
def yX9_isFree : MethodName := ⟨RX9, "isFree", "(I)Z"⟩
abbrev cX9_suits : ByteArray := prog_11_method_32_code
def yX9_suits : MethodName := ⟨RX9, "suits", "(II)Z"⟩
abbrev cX9_rankOf : ByteArray := prog_11_method_33_code
def yX9_rankOf : MethodName := ⟨RX9, "rankOf", "(I)I"⟩
abbrev cX9_findRanks : ByteArray := prog_11_method_34_code
def yX9_findRanks : MethodName := ⟨RX9, "findRanks", "()V"⟩
abbrev cX9_isAhead : ByteArray := prog_11_method_35_code
def yX9_isAhead : MethodName := ⟨RX9, "isAhead", "(II)Z"⟩
abbrev cX9_deals : ByteArray := prog_11_method_36_code
def yX9_deals : MethodName := ⟨RX9, "deals", "()I"⟩
abbrev cX9_firstDealt : ByteArray := prog_11_method_37_code
def yX9_firstDealt : MethodName := ⟨RX9, "firstDealt", "()I"⟩
abbrev cX9_books : ByteArray := prog_11_method_38_code
def yX9_books : MethodName := ⟨RX9, "books", "(II)V"⟩
abbrev cX9_waits : ByteArray := prog_11_method_39_code
def yX9_waits : MethodName := ⟨RX9, "waits", "(I)V"⟩
abbrev cX9_deal : ByteArray := prog_11_method_40_code
def yX9_deal : MethodName := ⟨RX9, "deal", "()I"⟩
abbrev cX9_movesUp : ByteArray := prog_11_method_41_code
def yX9_movesUp : MethodName := ⟨RX9, "movesUp", "(I)I"⟩
abbrev cX9_cancel : ByteArray := prog_11_method_42_code
def yX9_cancel : MethodName := ⟨RX9, "cancel", "(I)I"⟩
abbrev cX9_leave : ByteArray := prog_11_method_43_code
def yX9_leave : MethodName := ⟨RX9, "leave", "(I)Z"⟩
abbrev cX9_place : ByteArray := prog_11_method_44_code
def yX9_place : MethodName := ⟨RX9, "place", "(IIII)I"⟩
abbrev cX9_shut : ByteArray := prog_11_method_45_code
def yX9_shut : MethodName := ⟨RX9, "shut", "(I)I"⟩
abbrev cX9_days : ByteArray := prog_11_method_46_code
def yX9_days : MethodName := ⟨RX9, "days", "(I)I"⟩
abbrev cX9_held : ByteArray := prog_11_method_47_code
def yX9_held : MethodName := ⟨RX9, "held", "(IZ)Z"⟩
abbrev cX9_look : ByteArray := prog_11_method_48_code
def yX9_look : MethodName := ⟨RX9, "look", "(II)I"⟩
abbrev cX9_placeOf : ByteArray := prog_11_method_49_code
def yX9_placeOf : MethodName := ⟨RX9, "placeOf", "(I)I"⟩
abbrev cX9_at : ByteArray := prog_11_method_50_code
def yX9_at : MethodName := ⟨RX9, "at", "(III)I"⟩
abbrev cX9_street : ByteArray := prog_11_method_51_code
def yX9_street : MethodName := ⟨RX9, "street", "(IIII)I"⟩
abbrev cX9_streetsAt : ByteArray := prog_11_method_52_code
def yX9_streetsAt : MethodName := ⟨RX9, "streetsAt", "(I)I"⟩
abbrev cX9_close : ByteArray := prog_11_method_53_code
def yX9_close : MethodName := ⟨RX9, "close", "(IZ)Z"⟩
abbrev cX9_goes : ByteArray := prog_11_method_54_code
def yX9_goes : MethodName := ⟨RX9, "goes", "(III)V"⟩
abbrev cX9_ends : ByteArray := prog_11_method_55_code
def yX9_ends : MethodName := ⟨RX9, "ends", "(II)V"⟩
abbrev cX9_countAll : ByteArray := prog_11_method_56_code
def yX9_countAll : MethodName := ⟨RX9, "countAll", "(IIII)I"⟩
abbrev cX9_areNumbers : ByteArray := prog_11_method_57_code
def yX9_areNumbers : MethodName := ⟨RX9, "areNumbers", "(III)Z"⟩
abbrev cX9_routes : ByteArray := prog_11_method_58_code
def yX9_routes : MethodName := ⟨RX9, "routes", "(III)I"⟩
abbrev cX9_route : ByteArray := prog_11_method_59_code
def yX9_route : MethodName := ⟨RX9, "route", "(IIII)I"⟩
abbrev cX9_part_ : ByteArray := prog_11_method_60_code
def yX9_part_ : MethodName := ⟨RX9, "part", "(I)I"⟩
abbrev cX9_differs : ByteArray := prog_11_method_61_code
def yX9_differs : MethodName := ⟨RX9, "differs", "(II)I"⟩
abbrev cX9_learnersThat : ByteArray := prog_11_method_62_code
def yX9_learnersThat : MethodName := ⟨RX9, "learnersThat", "(I)I"⟩
abbrev cX9_count : ByteArray := prog_11_method_63_code
def yX9_count : MethodName := ⟨RX9, "count", "(I)I"⟩
abbrev cX9_load : ByteArray := prog_11_method_64_code
def yX9_load : MethodName := ⟨RX9, "load", "(II)I"⟩
def RJ9 : String := "java/lang/Math"
def TJ9 : u_T := fun k => match k with
  | _ => ("", "", "", false)
def tyJ9 : Nat → FieldType := fun k => match k with
  | _ => .int
abbrev wsJ90 : List Cond := u_ws RJ9 TJ9 0
theorem nmJ9 : ∀ a, a < 0 → ∀ b, b < 0 → a ≠ b → (TJ9 a).2.1 ≠ (TJ9 b).2.1 := by decide +kernel
theorem tyJ9_ok : ∀ k, k < 0 → parseFieldDescriptor (TJ9 k).2.2.1 = some (tyJ9 k) := by decide +kernel
abbrev cJ9_max_7cf53 : ByteArray := prog_13_method_65_code
def yJ9_max_7cf53 : MethodName := ⟨RJ9, "max", "(II)I"⟩
def RJ0 : String := "java/lang/String"
def TJ0 : u_T := fun k => match k with
  | _ => ("", "", "", false)
def tyJ0 : Nat → FieldType := fun k => match k with
  | _ => .int
abbrev wsJ00 : List Cond := u_ws RJ0 TJ0 0
theorem nmJ0 : ∀ a, a < 0 → ∀ b, b < 0 → a ≠ b → (TJ0 a).2.1 ≠ (TJ0 b).2.1 := by decide +kernel
theorem tyJ0_ok : ∀ k, k < 0 → parseFieldDescriptor (TJ0 k).2.2.1 = some (tyJ0 k) := by decide +kernel
abbrev cJ0_length_8abf5 : ByteArray := prog_15_method_54_code
def yJ0_length_8abf5 : MethodName := ⟨RJ0, "length", "()I"⟩
abbrev cJ0_charAt_5068e : ByteArray := prog_15_method_56_code
def yJ0_charAt_5068e : MethodName := ⟨RJ0, "charAt", "(I)C"⟩
abbrev cJ0_coder_7d493 : ByteArray := prog_15_method_152_code
def yJ0_coder_7d493 : MethodName := ⟨RJ0, "coder", "()B"⟩
abbrev cJ0_isLatin1_aae02 : ByteArray := prog_15_method_154_code
def yJ0_isLatin1_aae02 : MethodName := ⟨RJ0, "isLatin1", "()Z"⟩
abbrev cJ0_checkIndex_df160 : ByteArray := prog_15_method_155_code
def yJ0_checkIndex_df160 : MethodName := ⟨RJ0, "checkIndex", "(II)V"⟩
def RJ1 : String := "java/lang/StringLatin1"
def TJ1 : u_T := fun k => match k with
  | _ => ("", "", "", false)
def tyJ1 : Nat → FieldType := fun k => match k with
  | _ => .int
abbrev wsJ10 : List Cond := u_ws RJ1 TJ1 0
theorem nmJ1 : ∀ a, a < 0 → ∀ b, b < 0 → a ≠ b → (TJ1 a).2.1 ≠ (TJ1 b).2.1 := by decide +kernel
theorem tyJ1_ok : ∀ k, k < 0 → parseFieldDescriptor (TJ1 k).2.2.1 = some (tyJ1 k) := by decide +kernel
abbrev cJ1_charAt_3b067 : ByteArray := prog_16_method_2_code
def yJ1_charAt_3b067 : MethodName := ⟨RJ1, "charAt", "([BI)C"⟩
def RJ2 : String := "java/lang/StringUTF16"
def TJ2 : u_T := fun k => match k with
  | _ => ("", "", "", false)
def tyJ2 : Nat → FieldType := fun k => match k with
  | _ => .int
abbrev wsJ20 : List Cond := u_ws RJ2 TJ2 0
theorem nmJ2 : ∀ a, a < 0 → ∀ b, b < 0 → a ≠ b → (TJ2 a).2.1 ≠ (TJ2 b).2.1 := by decide +kernel
theorem tyJ2_ok : ∀ k, k < 0 → parseFieldDescriptor (TJ2 k).2.2.1 = some (tyJ2 k) := by decide +kernel
abbrev cJ2_getChar_3b067 : ByteArray := prog_17_method_5_code
def yJ2_getChar_3b067 : MethodName := ⟨RJ2, "getChar", "([BI)C"⟩
abbrev cJ2_length_9d52b : ByteArray := prog_17_method_6_code
def yJ2_length_9d52b : MethodName := ⟨RJ2, "length", "([B)I"⟩
abbrev cJ2_charAt_3b067 : ByteArray := prog_17_method_83_code
def yJ2_charAt_3b067 : MethodName := ⟨RJ2, "charAt", "([BI)C"⟩
abbrev cJ2_checkIndex_2214a : ByteArray := prog_17_method_91_code
def yJ2_checkIndex_2214a : MethodName := ⟨RJ2, "checkIndex", "(I[B)V"⟩
def RJ10 : String := "java/lang/System"
def TJ10 : u_T := fun k => match k with
  | _ => ("", "", "", false)
def tyJ10 : Nat → FieldType := fun k => match k with
  | _ => .int
abbrev wsJ100 : List Cond := u_ws RJ10 TJ10 0
theorem nmJ10 : ∀ a, a < 0 → ∀ b, b < 0 → a ≠ b → (TJ10 a).2.1 ≠ (TJ10 b).2.1 := by decide +kernel
theorem tyJ10_ok : ∀ k, k < 0 → parseFieldDescriptor (TJ10 k).2.2.1 = some (tyJ10 k) := by decide +kernel
def RJ7 : String := "java/util/Arrays"
def TJ7 : u_T := fun k => match k with
  | _ => ("", "", "", false)
def tyJ7 : Nat → FieldType := fun k => match k with
  | _ => .int
abbrev wsJ70 : List Cond := u_ws RJ7 TJ7 0
theorem nmJ7 : ∀ a, a < 0 → ∀ b, b < 0 → a ≠ b → (TJ7 a).2.1 ≠ (TJ7 b).2.1 := by decide +kernel
theorem tyJ7_ok : ∀ k, k < 0 → parseFieldDescriptor (TJ7 k).2.2.1 = some (tyJ7 k) := by decide +kernel
abbrev cJ7_fill_53178 : ByteArray := prog_20_method_103_code
def yJ7_fill_53178 : MethodName := ⟨RJ7, "fill", "([II)V"⟩
def RJ3 : String := "jdk/internal/util/Preconditions"
def TJ3 : u_T := fun k => match k with
  | _ => ("", "", "", false)
def tyJ3 : Nat → FieldType := fun k => match k with
  | _ => .int
abbrev wsJ30 : List Cond := u_ws RJ3 TJ3 0
theorem nmJ3 : ∀ a, a < 0 → ∀ b, b < 0 → a ≠ b → (TJ3 a).2.1 ≠ (TJ3 b).2.1 := by decide +kernel
theorem tyJ3_ok : ∀ k, k < 0 → parseFieldDescriptor (TJ3 k).2.2.1 = some (tyJ3 k) := by decide +kernel
abbrev cJ3_checkIndex_8e157 : ByteArray := prog_22_method_11_code
def yJ3_checkIndex_8e157 : MethodName := ⟨RJ3, "checkIndex", "(IILjava/util/function/BiFunction;)I"⟩
def RL : String := "TestHallLaw"
abbrev cL_look : ByteArray := method_3_code
def yL_look : MethodName := ⟨RL, "look", "(LTestHall;II[J)I"⟩
abbrev cL_law : ByteArray := code
def yL_law : MethodName := ⟨RL, "law", "([I)Z"⟩
def wsJ7_fill_53178 : List Cond := .code yJ7_fill_53178 cJ7_fill_53178 4 none :: ([])
def wsX0_init : List Cond := .code yX0_init cX0_init 1 none :: ([.methodLink RX0 3 objectInit, .instanceMethod objectInit, .code objectInit ⟨#[0xb1]⟩ 1 none, .arrayClass .int, .fieldLink RX0 9 "TestHall$Calendar" "towns" "[I", .arrayClass .boolean, .fieldLink RX0 15 "TestHall$Calendar" "shutDays" "[Z", .fieldLink RX0 19 "TestHall$Calendar" "booked" "[I", .fieldLink RX0 22 "TestHall$Calendar" "tests" "[I", .fieldLink RX0 25 "TestHall$Calendar" "passes" "[I", .methodLink RX0 28 yJ7_fill_53178, .static yJ7_fill_53178, .initialized RJ7, .code yJ7_fill_53178 cJ7_fill_53178 4 none] ++ wsX00)
def wsX0_addExaminer : List Cond := .code yX0_addExaminer cX0_addExaminer 1 (some .int) :: ([.fieldLink RX0 34 "TestHall$Calendar" "examiners" "I"] ++ wsX00)
def wsX0_isExaminer : List Cond := .code yX0_isExaminer cX0_isExaminer 2 (some .boolean) :: ([.fieldLink RX0 34 "TestHall$Calendar" "examiners" "I"] ++ wsX00)
def wsX8_isDay : List Cond := .code yX8_isDay cX8_isDay 1 (some .boolean) :: ([])
def wsX0_setTown : List Cond := .code yX0_setTown cX0_setTown 4 none :: ([.fieldLink RX0 9 "TestHall$Calendar" "towns" "[I", .methodLink RX0 38 yX0_isExaminer, .instanceMethod yX0_isExaminer, .selects RX0 yX0_isExaminer yX0_isExaminer, .initialized RX0, .code yX0_isExaminer cX0_isExaminer 2 (some .boolean), .fieldLink RX0 34 "TestHall$Calendar" "examiners" "I", .static yX8_isDay, .initialized RX8, .code yX8_isDay cX8_isDay 1 (some .boolean)] ++ wsX00)
def wsX0_townOf : List Cond := .code yX0_townOf cX0_townOf 4 (some .int) :: ([.fieldLink RX0 34 "TestHall$Calendar" "examiners" "I", .fieldLink RX0 9 "TestHall$Calendar" "towns" "[I"] ++ wsX00)
def wsX0_shutDay : List Cond := .code yX0_shutDay cX0_shutDay 2 none :: ([.fieldLink RX0 15 "TestHall$Calendar" "shutDays" "[Z", .static yX8_isDay, .initialized RX8, .code yX8_isDay cX8_isDay 1 (some .boolean)] ++ wsX00)
def wsX0_isShut : List Cond := .code yX0_isShut cX0_isShut 2 (some .boolean) :: ([.fieldLink RX0 15 "TestHall$Calendar" "shutDays" "[Z", .static yX8_isDay, .initialized RX8, .code yX8_isDay cX8_isDay 1 (some .boolean)] ++ wsX00)
def wsX0_isTravel : List Cond := .code yX0_isTravel cX0_isTravel 2 (some .boolean) :: ([])
def wsX0_hasHour : List Cond := .code yX0_hasHour cX0_hasHour 5 (some .boolean) :: ([.methodLink RX0 45 yX0_townOf, .instanceMethod yX0_townOf, .selects RX0 yX0_townOf yX0_townOf, .initialized RX0, .code yX0_townOf cX0_townOf 4 (some .int), .fieldLink RX0 34 "TestHall$Calendar" "examiners" "I", .fieldLink RX0 9 "TestHall$Calendar" "towns" "[I", .methodLink RX0 49 yX0_isTravel, .static yX0_isTravel, .code yX0_isTravel cX0_isTravel 2 (some .boolean)] ++ wsX00)
def wsX0_isSlot : List Cond := .code yX0_isSlot cX0_isSlot 2 (some .boolean) :: ([.fieldLink RX0 19 "TestHall$Calendar" "booked" "[I"] ++ wsX00)
def wsX0_bookedIn : List Cond := .code yX0_bookedIn cX0_bookedIn 2 (some .int) :: ([.fieldLink RX0 19 "TestHall$Calendar" "booked" "[I", .methodLink RX0 53 yX0_isSlot, .instanceMethod yX0_isSlot, .selects RX0 yX0_isSlot yX0_isSlot, .initialized RX0, .code yX0_isSlot cX0_isSlot 2 (some .boolean)] ++ wsX00)
def wsX0_setBooked : List Cond := .code yX0_setBooked cX0_setBooked 3 none :: ([.fieldLink RX0 19 "TestHall$Calendar" "booked" "[I", .methodLink RX0 53 yX0_isSlot, .instanceMethod yX0_isSlot, .selects RX0 yX0_isSlot yX0_isSlot, .initialized RX0, .code yX0_isSlot cX0_isSlot 2 (some .boolean)] ++ wsX00)
def wsX8_dayOf : List Cond := .code yX8_dayOf cX8_dayOf 1 (some .int) :: ([])
def wsX8_hourOf : List Cond := .code yX8_hourOf cX8_hourOf 1 (some .int) :: ([])
def wsX8_examinerOf : List Cond := .code yX8_examinerOf cX8_examinerOf 1 (some .int) :: ([])
def wsX0_isFree_r1 : List Cond := [Cond.fieldLink RX0 19 "TestHall$Calendar" "booked" "[I", Cond.fieldLink RX0 60 "TestHall$Calendar" "now" "I", Cond.fieldLink RX0 15 "TestHall$Calendar" "shutDays" "[Z", Cond.methodLink RX0 53 yX0_isSlot, Cond.instanceMethod yX0_isSlot, Cond.selects RX0 yX0_isSlot yX0_isSlot, Cond.initialized RX0, Cond.code yX0_isSlot cX0_isSlot 2 (some .boolean), Cond.static yX8_dayOf, Cond.initialized RX8, Cond.code yX8_dayOf cX8_dayOf 1 (some .int), Cond.static yX8_hourOf, Cond.code yX8_hourOf cX8_hourOf 1 (some .int), Cond.static yX8_examinerOf, Cond.code yX8_examinerOf cX8_examinerOf 1 (some .int), Cond.methodLink RX0 69 yX0_hasHour, Cond.instanceMethod yX0_hasHour, Cond.selects RX0 yX0_hasHour yX0_hasHour, Cond.code yX0_hasHour cX0_hasHour 5 (some .boolean), Cond.methodLink RX0 45 yX0_townOf, Cond.instanceMethod yX0_townOf, Cond.selects RX0 yX0_townOf yX0_townOf, Cond.code yX0_townOf cX0_townOf 4 (some .int), Cond.fieldLink RX0 34 "TestHall$Calendar" "examiners" "I"]
def wsX0_isFree_r2 : List Cond := [Cond.fieldLink RX0 9 "TestHall$Calendar" "towns" "[I", Cond.methodLink RX0 49 yX0_isTravel, Cond.static yX0_isTravel, Cond.code yX0_isTravel cX0_isTravel 2 (some .boolean)]
def wsX0_isFree : List Cond := .code yX0_isFree cX0_isFree 3 (some .boolean) :: ((wsX0_isFree_r1 ++ wsX0_isFree_r2) ++ wsX00)
def wsX8_slotOf : List Cond := .code yX8_slotOf cX8_slotOf 3 (some .int) :: ([])
def wsX0_firstFreeOf_r1 : List Cond := [Cond.static yX8_slotOf, Cond.initialized RX8, Cond.code yX8_slotOf cX8_slotOf 3 (some .int), Cond.methodLink RX0 88 yX0_isFree, Cond.instanceMethod yX0_isFree, Cond.selects RX0 yX0_isFree yX0_isFree, Cond.initialized RX0, Cond.code yX0_isFree cX0_isFree 3 (some .boolean), Cond.fieldLink RX0 19 "TestHall$Calendar" "booked" "[I", Cond.fieldLink RX0 60 "TestHall$Calendar" "now" "I", Cond.fieldLink RX0 15 "TestHall$Calendar" "shutDays" "[Z", Cond.methodLink RX0 53 yX0_isSlot, Cond.instanceMethod yX0_isSlot, Cond.selects RX0 yX0_isSlot yX0_isSlot, Cond.code yX0_isSlot cX0_isSlot 2 (some .boolean), Cond.static yX8_dayOf, Cond.code yX8_dayOf cX8_dayOf 1 (some .int), Cond.static yX8_hourOf, Cond.code yX8_hourOf cX8_hourOf 1 (some .int), Cond.static yX8_examinerOf, Cond.code yX8_examinerOf cX8_examinerOf 1 (some .int), Cond.methodLink RX0 69 yX0_hasHour, Cond.instanceMethod yX0_hasHour, Cond.selects RX0 yX0_hasHour yX0_hasHour]
def wsX0_firstFreeOf_r2 : List Cond := [Cond.code yX0_hasHour cX0_hasHour 5 (some .boolean), Cond.methodLink RX0 45 yX0_townOf, Cond.instanceMethod yX0_townOf, Cond.selects RX0 yX0_townOf yX0_townOf, Cond.code yX0_townOf cX0_townOf 4 (some .int), Cond.fieldLink RX0 34 "TestHall$Calendar" "examiners" "I", Cond.fieldLink RX0 9 "TestHall$Calendar" "towns" "[I", Cond.methodLink RX0 49 yX0_isTravel, Cond.static yX0_isTravel, Cond.code yX0_isTravel cX0_isTravel 2 (some .boolean)]
def wsX0_firstFreeOf : List Cond := .code yX0_firstFreeOf cX0_firstFreeOf 4 (some .int) :: ((wsX0_firstFreeOf_r1 ++ wsX0_firstFreeOf_r2) ++ wsX00)
def wsX0_leastFreeOn_r1 : List Cond := [Cond.fieldLink RX0 34 "TestHall$Calendar" "examiners" "I", Cond.methodLink RX0 45 yX0_townOf, Cond.instanceMethod yX0_townOf, Cond.selects RX0 yX0_townOf yX0_townOf, Cond.initialized RX0, Cond.code yX0_townOf cX0_townOf 4 (some .int), Cond.fieldLink RX0 9 "TestHall$Calendar" "towns" "[I", Cond.methodLink RX0 81 yX0_firstFreeOf, Cond.instanceMethod yX0_firstFreeOf, Cond.selects RX0 yX0_firstFreeOf yX0_firstFreeOf, Cond.code yX0_firstFreeOf cX0_firstFreeOf 4 (some .int), Cond.static yX8_slotOf, Cond.initialized RX8, Cond.code yX8_slotOf cX8_slotOf 3 (some .int), Cond.methodLink RX0 88 yX0_isFree, Cond.instanceMethod yX0_isFree, Cond.selects RX0 yX0_isFree yX0_isFree, Cond.code yX0_isFree cX0_isFree 3 (some .boolean), Cond.fieldLink RX0 19 "TestHall$Calendar" "booked" "[I", Cond.fieldLink RX0 60 "TestHall$Calendar" "now" "I", Cond.fieldLink RX0 15 "TestHall$Calendar" "shutDays" "[Z", Cond.methodLink RX0 53 yX0_isSlot, Cond.instanceMethod yX0_isSlot, Cond.selects RX0 yX0_isSlot yX0_isSlot]
def wsX0_leastFreeOn_r2 : List Cond := [Cond.code yX0_isSlot cX0_isSlot 2 (some .boolean), Cond.static yX8_dayOf, Cond.code yX8_dayOf cX8_dayOf 1 (some .int), Cond.static yX8_hourOf, Cond.code yX8_hourOf cX8_hourOf 1 (some .int), Cond.static yX8_examinerOf, Cond.code yX8_examinerOf cX8_examinerOf 1 (some .int), Cond.methodLink RX0 69 yX0_hasHour, Cond.instanceMethod yX0_hasHour, Cond.selects RX0 yX0_hasHour yX0_hasHour, Cond.code yX0_hasHour cX0_hasHour 5 (some .boolean), Cond.methodLink RX0 49 yX0_isTravel, Cond.static yX0_isTravel, Cond.code yX0_isTravel cX0_isTravel 2 (some .boolean)]
def wsX0_leastFreeOn : List Cond := .code yX0_leastFreeOn cX0_leastFreeOn 6 (some .int) :: ((wsX0_leastFreeOn_r1 ++ wsX0_leastFreeOn_r2) ++ wsX00)
def wsX0_leastFree_r1 : List Cond := [Cond.fieldLink RX0 60 "TestHall$Calendar" "now" "I", Cond.methodLink RX0 73 Lib.Math.max.name, Cond.static Lib.Math.max.name, Cond.initialized "java/lang/Math", Cond.code Lib.Math.max.name Lib.Math.max.code 2 (some .int), Cond.methodLink RX0 78 yX0_leastFreeOn, Cond.instanceMethod yX0_leastFreeOn, Cond.selects RX0 yX0_leastFreeOn yX0_leastFreeOn, Cond.initialized RX0, Cond.code yX0_leastFreeOn cX0_leastFreeOn 6 (some .int), Cond.fieldLink RX0 34 "TestHall$Calendar" "examiners" "I", Cond.methodLink RX0 45 yX0_townOf, Cond.instanceMethod yX0_townOf, Cond.selects RX0 yX0_townOf yX0_townOf, Cond.code yX0_townOf cX0_townOf 4 (some .int), Cond.fieldLink RX0 9 "TestHall$Calendar" "towns" "[I", Cond.methodLink RX0 81 yX0_firstFreeOf, Cond.instanceMethod yX0_firstFreeOf, Cond.selects RX0 yX0_firstFreeOf yX0_firstFreeOf, Cond.code yX0_firstFreeOf cX0_firstFreeOf 4 (some .int), Cond.static yX8_slotOf, Cond.initialized RX8, Cond.code yX8_slotOf cX8_slotOf 3 (some .int), Cond.methodLink RX0 88 yX0_isFree]
def wsX0_leastFree_r2 : List Cond := [Cond.instanceMethod yX0_isFree, Cond.selects RX0 yX0_isFree yX0_isFree, Cond.code yX0_isFree cX0_isFree 3 (some .boolean), Cond.fieldLink RX0 19 "TestHall$Calendar" "booked" "[I", Cond.fieldLink RX0 15 "TestHall$Calendar" "shutDays" "[Z", Cond.methodLink RX0 53 yX0_isSlot, Cond.instanceMethod yX0_isSlot, Cond.selects RX0 yX0_isSlot yX0_isSlot, Cond.code yX0_isSlot cX0_isSlot 2 (some .boolean), Cond.static yX8_dayOf, Cond.code yX8_dayOf cX8_dayOf 1 (some .int), Cond.static yX8_hourOf, Cond.code yX8_hourOf cX8_hourOf 1 (some .int), Cond.static yX8_examinerOf, Cond.code yX8_examinerOf cX8_examinerOf 1 (some .int), Cond.methodLink RX0 69 yX0_hasHour, Cond.instanceMethod yX0_hasHour, Cond.selects RX0 yX0_hasHour yX0_hasHour, Cond.code yX0_hasHour cX0_hasHour 5 (some .boolean), Cond.methodLink RX0 49 yX0_isTravel, Cond.static yX0_isTravel, Cond.code yX0_isTravel cX0_isTravel 2 (some .boolean)]
def wsX0_leastFree : List Cond := .code yX0_leastFree cX0_leastFree 6 (some .int) :: ((wsX0_leastFree_r1 ++ wsX0_leastFree_r2) ++ wsX00)
def wsX0_noteTest : List Cond := .code yX0_noteTest cX0_noteTest 3 none :: ([.fieldLink RX0 22 "TestHall$Calendar" "tests" "[I", .fieldLink RX0 91 "TestHall$Calendar" "allTests" "I", .fieldLink RX0 25 "TestHall$Calendar" "passes" "[I", .fieldLink RX0 94 "TestHall$Calendar" "allPasses" "I", .methodLink RX0 38 yX0_isExaminer, .instanceMethod yX0_isExaminer, .selects RX0 yX0_isExaminer yX0_isExaminer, .initialized RX0, .code yX0_isExaminer cX0_isExaminer 2 (some .boolean), .fieldLink RX0 34 "TestHall$Calendar" "examiners" "I"] ++ wsX00)
def wsX0_testsOf : List Cond := .code yX0_testsOf cX0_testsOf 2 (some .int) :: ([.fieldLink RX0 22 "TestHall$Calendar" "tests" "[I", .methodLink RX0 38 yX0_isExaminer, .instanceMethod yX0_isExaminer, .selects RX0 yX0_isExaminer yX0_isExaminer, .initialized RX0, .code yX0_isExaminer cX0_isExaminer 2 (some .boolean), .fieldLink RX0 34 "TestHall$Calendar" "examiners" "I"] ++ wsX00)
def wsX0_passesOf : List Cond := .code yX0_passesOf cX0_passesOf 2 (some .int) :: ([.fieldLink RX0 25 "TestHall$Calendar" "passes" "[I", .methodLink RX0 38 yX0_isExaminer, .instanceMethod yX0_isExaminer, .selects RX0 yX0_isExaminer yX0_isExaminer, .initialized RX0, .code yX0_isExaminer cX0_isExaminer 2 (some .boolean), .fieldLink RX0 34 "TestHall$Calendar" "examiners" "I"] ++ wsX00)
def wsX0_difference : List Cond := .code yX0_difference cX0_difference 15 (some .int) :: ([.fieldLink RX0 91 "TestHall$Calendar" "allTests" "I", .fieldLink RX0 94 "TestHall$Calendar" "allPasses" "I", .constantLong RX0 103 (100), .methodLink RX0 97 yX0_testsOf, .instanceMethod yX0_testsOf, .selects RX0 yX0_testsOf yX0_testsOf, .initialized RX0, .code yX0_testsOf cX0_testsOf 2 (some .int), .fieldLink RX0 22 "TestHall$Calendar" "tests" "[I", .methodLink RX0 38 yX0_isExaminer, .instanceMethod yX0_isExaminer, .selects RX0 yX0_isExaminer yX0_isExaminer, .code yX0_isExaminer cX0_isExaminer 2 (some .boolean), .fieldLink RX0 34 "TestHall$Calendar" "examiners" "I", .methodLink RX0 100 yX0_passesOf, .instanceMethod yX0_passesOf, .selects RX0 yX0_passesOf yX0_passesOf, .code yX0_passesOf cX0_passesOf 2 (some .int), .fieldLink RX0 25 "TestHall$Calendar" "passes" "[I"] ++ wsX00)
def wsX1_init : List Cond := .code yX1_init cX1_init 3 none :: ([.methodLink RX1 3 objectInit, .instanceMethod objectInit, .code objectInit ⟨#[0xb1]⟩ 1 none, .fieldLink RX1 9 "TestHall$Learner" "number" "I", .fieldLink RX1 15 "TestHall$Learner" "came" "I", .fieldLink RX1 18 "TestHall$Learner" "state" "I", .fieldLink RX1 21 "TestHall$Learner" "slot" "I"] ++ wsX10)
def wsX2_init : List Cond := .code yX2_init cX2_init 1 none :: ([.methodLink RX2 3 objectInit, .instanceMethod objectInit, .code objectInit ⟨#[0xb1]⟩ 1 none, .arrayClass .int, .fieldLink RX2 9 "TestHall$Line" "numbers" "[I", .fieldLink RX2 15 "TestHall$Line" "ranks" "[I"] ++ wsX20)
def wsX2_clear : List Cond := .code yX2_clear cX2_clear 1 none :: ([.fieldLink RX2 18 "TestHall$Line" "size" "I"] ++ wsX20)
def wsX2_add : List Cond := .code yX2_add cX2_add 4 none :: ([.fieldLink RX2 18 "TestHall$Line" "size" "I", .fieldLink RX2 15 "TestHall$Line" "ranks" "[I", .fieldLink RX2 9 "TestHall$Line" "numbers" "[I"] ++ wsX20)
def wsX2_placeOf : List Cond := .code yX2_placeOf cX2_placeOf 3 (some .int) :: ([.fieldLink RX2 18 "TestHall$Line" "size" "I", .fieldLink RX2 9 "TestHall$Line" "numbers" "[I"] ++ wsX20)
def wsX3_init : List Cond := .code yX3_init cX3_init 1 none :: ([.methodLink RX3 3 objectInit, .instanceMethod objectInit, .code objectInit ⟨#[0xb1]⟩ 1 none, .arrayClass .int, .fieldLink RX3 11 "TestHall$Streets" "ends" "[I", .fieldLink RX3 15 "TestHall$Streets" "otherEnds" "[I", .fieldLink RX3 18 "TestHall$Streets" "minutesOf" "[I", .fieldLink RX3 21 "TestHall$Streets" "marksOf" "[I", .arrayClass .boolean, .fieldLink RX3 24 "TestHall$Streets" "closed" "[Z", .classLink RX3 28 "[[I", .fieldLink RX3 30 "TestHall$Streets" "streetsAt" "[[I", .fieldLink RX3 33 "TestHall$Streets" "sizeAt" "[I", .fieldLink RX3 36 "TestHall$Streets" "path" "[I", .fieldLink RX3 39 "TestHall$Streets" "drawn" "[I"] ++ wsX30)
def wsX8_isWithin : List Cond := .code yX8_isWithin cX8_isWithin 3 (some .boolean) :: ([])
def wsX3_hasRoomAt : List Cond := .code yX3_hasRoomAt cX3_hasRoomAt 2 (some .boolean) :: ([.fieldLink RX3 33 "TestHall$Streets" "sizeAt" "[I", .static yX8_isWithin, .initialized RX8, .code yX8_isWithin cX8_isWithin 3 (some .boolean)] ++ wsX30)
def wsX3_putAt : List Cond := .code yX3_putAt cX3_putAt 3 none :: ([.fieldLink RX3 30 "TestHall$Streets" "streetsAt" "[[I", .fieldLink RX3 33 "TestHall$Streets" "sizeAt" "[I", .methodLink RX3 42 yX3_hasRoomAt, .instanceMethod yX3_hasRoomAt, .selects RX3 yX3_hasRoomAt yX3_hasRoomAt, .initialized RX3, .code yX3_hasRoomAt cX3_hasRoomAt 2 (some .boolean), .static yX8_isWithin, .initialized RX8, .code yX8_isWithin cX8_isWithin 3 (some .boolean)] ++ wsX30)
def wsX3_add : List Cond := .code yX3_add cX3_add 5 (some .int) :: ([.fieldLink RX3 46 "TestHall$Streets" "size" "I", .fieldLink RX3 11 "TestHall$Streets" "ends" "[I", .fieldLink RX3 15 "TestHall$Streets" "otherEnds" "[I", .fieldLink RX3 18 "TestHall$Streets" "minutesOf" "[I", .fieldLink RX3 21 "TestHall$Streets" "marksOf" "[I", .methodLink RX3 42 yX3_hasRoomAt, .instanceMethod yX3_hasRoomAt, .selects RX3 yX3_hasRoomAt yX3_hasRoomAt, .initialized RX3, .code yX3_hasRoomAt cX3_hasRoomAt 2 (some .boolean), .fieldLink RX3 33 "TestHall$Streets" "sizeAt" "[I", .static yX8_isWithin, .initialized RX8, .code yX8_isWithin cX8_isWithin 3 (some .boolean), .methodLink RX3 54 yX3_putAt, .instanceMethod yX3_putAt, .selects RX3 yX3_putAt yX3_putAt, .code yX3_putAt cX3_putAt 3 none, .fieldLink RX3 30 "TestHall$Streets" "streetsAt" "[[I"] ++ wsX30)
def wsX3_setClosed : List Cond := .code yX3_setClosed cX3_setClosed 3 (some .boolean) :: ([.fieldLink RX3 46 "TestHall$Streets" "size" "I", .fieldLink RX3 24 "TestHall$Streets" "closed" "[Z", .static yX8_isWithin, .initialized RX8, .code yX8_isWithin cX8_isWithin 3 (some .boolean)] ++ wsX30)
def wsX3_isTarget : List Cond := .code yX3_isTarget cX3_isTarget 4 (some .boolean) :: ([.fieldLink RX3 58 "TestHall$Streets" "least" "I", .fieldLink RX3 61 "TestHall$Streets" "most" "I", .fieldLink RX3 64 "TestHall$Streets" "wanted" "I", .fieldLink RX3 71 "TestHall$Streets" "found" "I", .fieldLink RX3 93 "TestHall$Streets" "target" "I", .fieldLink RX3 84 "TestHall$Streets" "foundParts" "I", .fieldLink RX3 90 "TestHall$Streets" "foundMinutes" "I", .static yX8_isWithin, .initialized RX8, .code yX8_isWithin cX8_isWithin 3 (some .boolean)] ++ wsX30)
def wsX3_walk_r1 : List Cond := [Cond.fieldLink RX3 33 "TestHall$Streets" "sizeAt" "[I", Cond.fieldLink RX3 30 "TestHall$Streets" "streetsAt" "[[I", Cond.fieldLink RX3 24 "TestHall$Streets" "closed" "[Z", Cond.fieldLink RX3 36 "TestHall$Streets" "path" "[I", Cond.fieldLink RX3 11 "TestHall$Streets" "ends" "[I", Cond.fieldLink RX3 15 "TestHall$Streets" "otherEnds" "[I", Cond.fieldLink RX3 18 "TestHall$Streets" "minutesOf" "[I", Cond.fieldLink RX3 21 "TestHall$Streets" "marksOf" "[I", Cond.methodLink RX3 100 yX3_isTarget, Cond.instanceMethod yX3_isTarget, Cond.selects RX3 yX3_isTarget yX3_isTarget, Cond.initialized RX3, Cond.code yX3_isTarget cX3_isTarget 4 (some .boolean), Cond.fieldLink RX3 58 "TestHall$Streets" "least" "I", Cond.fieldLink RX3 61 "TestHall$Streets" "most" "I", Cond.fieldLink RX3 64 "TestHall$Streets" "wanted" "I", Cond.fieldLink RX3 71 "TestHall$Streets" "found" "I", Cond.fieldLink RX3 93 "TestHall$Streets" "target" "I", Cond.fieldLink RX3 84 "TestHall$Streets" "foundParts" "I", Cond.fieldLink RX3 90 "TestHall$Streets" "foundMinutes" "I", Cond.static yX8_isWithin, Cond.initialized RX8, Cond.code yX8_isWithin cX8_isWithin 3 (some .boolean), Cond.methodLink RX3 96 yX3_walk]
def wsX3_walk_r2 : List Cond := [Cond.instanceMethod yX3_walk, Cond.selects RX3 yX3_walk yX3_walk]
def wsX3_walk : List Cond := .code yX3_walk cX3_walk 12 (some .boolean) :: ((wsX3_walk_r1 ++ wsX3_walk_r2) ++ wsX30)
def wsX3_search_r1 : List Cond := [Cond.fieldLink RX3 93 "TestHall$Streets" "target" "I", Cond.fieldLink RX3 71 "TestHall$Streets" "found" "I", Cond.methodLink RX3 96 yX3_walk, Cond.instanceMethod yX3_walk, Cond.selects RX3 yX3_walk yX3_walk, Cond.initialized RX3, Cond.code yX3_walk cX3_walk 12 (some .boolean), Cond.fieldLink RX3 33 "TestHall$Streets" "sizeAt" "[I", Cond.fieldLink RX3 30 "TestHall$Streets" "streetsAt" "[[I", Cond.fieldLink RX3 24 "TestHall$Streets" "closed" "[Z", Cond.fieldLink RX3 36 "TestHall$Streets" "path" "[I", Cond.fieldLink RX3 11 "TestHall$Streets" "ends" "[I", Cond.fieldLink RX3 15 "TestHall$Streets" "otherEnds" "[I", Cond.fieldLink RX3 18 "TestHall$Streets" "minutesOf" "[I", Cond.fieldLink RX3 21 "TestHall$Streets" "marksOf" "[I", Cond.methodLink RX3 100 yX3_isTarget, Cond.instanceMethod yX3_isTarget, Cond.selects RX3 yX3_isTarget yX3_isTarget, Cond.code yX3_isTarget cX3_isTarget 4 (some .boolean), Cond.fieldLink RX3 58 "TestHall$Streets" "least" "I", Cond.fieldLink RX3 61 "TestHall$Streets" "most" "I", Cond.fieldLink RX3 64 "TestHall$Streets" "wanted" "I", Cond.fieldLink RX3 84 "TestHall$Streets" "foundParts" "I", Cond.fieldLink RX3 90 "TestHall$Streets" "foundMinutes" "I"]
def wsX3_search_r2 : List Cond := [Cond.static yX8_isWithin, Cond.initialized RX8, Cond.code yX8_isWithin cX8_isWithin 3 (some .boolean)]
def wsX3_search : List Cond := .code yX3_search cX3_search 2 none :: ((wsX3_search_r1 ++ wsX3_search_r2) ++ wsX30)
def wsX3_countRoutes_r1 : List Cond := [Cond.fieldLink RX3 58 "TestHall$Streets" "least" "I", Cond.fieldLink RX3 61 "TestHall$Streets" "most" "I", Cond.fieldLink RX3 64 "TestHall$Streets" "wanted" "I", Cond.fieldLink RX3 71 "TestHall$Streets" "found" "I", Cond.static yX8_isWithin, Cond.initialized RX8, Cond.code yX8_isWithin cX8_isWithin 3 (some .boolean), Cond.methodLink RX3 67 yX3_search, Cond.instanceMethod yX3_search, Cond.selects RX3 yX3_search yX3_search, Cond.initialized RX3, Cond.code yX3_search cX3_search 2 none, Cond.fieldLink RX3 93 "TestHall$Streets" "target" "I", Cond.methodLink RX3 96 yX3_walk, Cond.instanceMethod yX3_walk, Cond.selects RX3 yX3_walk yX3_walk, Cond.code yX3_walk cX3_walk 12 (some .boolean), Cond.fieldLink RX3 33 "TestHall$Streets" "sizeAt" "[I", Cond.fieldLink RX3 30 "TestHall$Streets" "streetsAt" "[[I", Cond.fieldLink RX3 24 "TestHall$Streets" "closed" "[Z", Cond.fieldLink RX3 36 "TestHall$Streets" "path" "[I", Cond.fieldLink RX3 11 "TestHall$Streets" "ends" "[I", Cond.fieldLink RX3 15 "TestHall$Streets" "otherEnds" "[I", Cond.fieldLink RX3 18 "TestHall$Streets" "minutesOf" "[I"]
def wsX3_countRoutes_r2 : List Cond := [Cond.fieldLink RX3 21 "TestHall$Streets" "marksOf" "[I", Cond.methodLink RX3 100 yX3_isTarget, Cond.instanceMethod yX3_isTarget, Cond.selects RX3 yX3_isTarget yX3_isTarget, Cond.code yX3_isTarget cX3_isTarget 4 (some .boolean), Cond.fieldLink RX3 84 "TestHall$Streets" "foundParts" "I", Cond.fieldLink RX3 90 "TestHall$Streets" "foundMinutes" "I"]
def wsX3_countRoutes : List Cond := .code yX3_countRoutes cX3_countRoutes 5 (some .int) :: ((wsX3_countRoutes_r1 ++ wsX3_countRoutes_r2) ++ wsX30)
def wsX3_draw_r1 : List Cond := [Cond.fieldLink RX3 36 "TestHall$Streets" "path" "[I", Cond.fieldLink RX3 39 "TestHall$Streets" "drawn" "[I", Cond.methodLink RX3 78 arraycopyName, Cond.native arraycopyName, Cond.static arraycopyName, Cond.initialized "java/lang/System", Cond.fieldLink RX3 84 "TestHall$Streets" "foundParts" "I", Cond.fieldLink RX3 87 "TestHall$Streets" "drawnParts" "I", Cond.fieldLink RX3 90 "TestHall$Streets" "foundMinutes" "I", Cond.methodLink RX3 74 yX3_countRoutes, Cond.instanceMethod yX3_countRoutes, Cond.selects RX3 yX3_countRoutes yX3_countRoutes, Cond.initialized RX3, Cond.code yX3_countRoutes cX3_countRoutes 5 (some .int), Cond.fieldLink RX3 58 "TestHall$Streets" "least" "I", Cond.fieldLink RX3 61 "TestHall$Streets" "most" "I", Cond.fieldLink RX3 64 "TestHall$Streets" "wanted" "I", Cond.fieldLink RX3 71 "TestHall$Streets" "found" "I", Cond.static yX8_isWithin, Cond.initialized RX8, Cond.code yX8_isWithin cX8_isWithin 3 (some .boolean), Cond.methodLink RX3 67 yX3_search, Cond.instanceMethod yX3_search, Cond.selects RX3 yX3_search yX3_search]
def wsX3_draw_r2 : List Cond := [Cond.code yX3_search cX3_search 2 none, Cond.fieldLink RX3 93 "TestHall$Streets" "target" "I", Cond.methodLink RX3 96 yX3_walk, Cond.instanceMethod yX3_walk, Cond.selects RX3 yX3_walk yX3_walk, Cond.code yX3_walk cX3_walk 12 (some .boolean), Cond.fieldLink RX3 33 "TestHall$Streets" "sizeAt" "[I", Cond.fieldLink RX3 30 "TestHall$Streets" "streetsAt" "[[I", Cond.fieldLink RX3 24 "TestHall$Streets" "closed" "[Z", Cond.fieldLink RX3 11 "TestHall$Streets" "ends" "[I", Cond.fieldLink RX3 15 "TestHall$Streets" "otherEnds" "[I", Cond.fieldLink RX3 18 "TestHall$Streets" "minutesOf" "[I", Cond.fieldLink RX3 21 "TestHall$Streets" "marksOf" "[I", Cond.methodLink RX3 100 yX3_isTarget, Cond.instanceMethod yX3_isTarget, Cond.selects RX3 yX3_isTarget yX3_isTarget, Cond.code yX3_isTarget cX3_isTarget 4 (some .boolean)]
def wsX3_draw : List Cond := .code yX3_draw cX3_draw 6 (some .int) :: ((wsX3_draw_r1 ++ wsX3_draw_r2) ++ wsX30)
def wsX3_drawnStreet : List Cond := .code yX3_drawnStreet cX3_drawnStreet 2 (some .int) :: ([.fieldLink RX3 87 "TestHall$Streets" "drawnParts" "I", .fieldLink RX3 39 "TestHall$Streets" "drawn" "[I", .static yX8_isWithin, .initialized RX8, .code yX8_isWithin cX8_isWithin 3 (some .boolean)] ++ wsX30)
def wsX4_init : List Cond := .code yX4_init cX4_init 1 none :: ([.methodLink RX4 1 objectInit, .instanceMethod objectInit, .code objectInit ⟨#[0xb1]⟩ 1 none, .arrayClass .char, .fieldLink RX4 9 "TestHall$Tape" "signs" "[C"] ++ wsX40)
def wsX4_addEight : List Cond := .code yX4_addEight cX4_addEight 6 none :: ([.fieldLink RX4 19 "TestHall$Tape" "length" "I", .fieldLink RX4 9 "TestHall$Tape" "signs" "[C", .static yX8_isWithin, .initialized RX8, .code yX8_isWithin cX8_isWithin 3 (some .boolean)] ++ wsX40)
def wsX5_init : List Cond := .code yX5_init cX5_init 1 none :: ([.methodLink RX5 3 objectInit, .instanceMethod objectInit, .code objectInit ⟨#[0xb1]⟩ 1 none, .arrayClass .int, .fieldLink RX5 9 "TestHall$Text" "firsts" "[I", .fieldLink RX5 13 "TestHall$Text" "ends" "[I", .fieldLink RX5 18 "TestHall$Text" "codes" "[I", .fieldLink RX5 21 "TestHall$Text" "stack" "[I"] ++ wsX50)
def wsX5_clear : List Cond := .code yX5_clear cX5_clear 1 none :: ([.fieldLink RX5 24 "TestHall$Text" "lines" "I", .fieldLink RX5 28 "TestHall$Text" "size" "I"] ++ wsX50)
def wsX5_addCode : List Cond := .code yX5_addCode cX5_addCode 2 none :: ([.fieldLink RX5 28 "TestHall$Text" "size" "I", .fieldLink RX5 18 "TestHall$Text" "codes" "[I"] ++ wsX50)
def wsX5_addLine : List Cond := .code yX5_addLine cX5_addLine 2 none :: ([.fieldLink RX5 24 "TestHall$Text" "lines" "I", .fieldLink RX5 9 "TestHall$Text" "firsts" "[I", .fieldLink RX5 13 "TestHall$Text" "ends" "[I", .fieldLink RX5 28 "TestHall$Text" "size" "I"] ++ wsX50)
def wsX5_joined : List Cond := .code yX5_joined cX5_joined 3 (some .int) :: ([])
def wsX5_valueOf : List Cond := .code yX5_valueOf cX5_valueOf 7 (some .int) :: ([.fieldLink RX5 18 "TestHall$Text" "codes" "[I", .fieldLink RX5 21 "TestHall$Text" "stack" "[I", .methodLink RX5 37 yX5_joined, .static yX5_joined, .initialized RX5, .code yX5_joined cX5_joined 3 (some .int)] ++ wsX50)
def wsX5_rankBy : List Cond := .code yX5_rankBy cX5_rankBy 4 (some .int) :: ([.fieldLink RX5 24 "TestHall$Text" "lines" "I", .fieldLink RX5 13 "TestHall$Text" "ends" "[I", .fieldLink RX5 9 "TestHall$Text" "firsts" "[I", .methodLink RX5 31 yX5_valueOf, .instanceMethod yX5_valueOf, .selects RX5 yX5_valueOf yX5_valueOf, .initialized RX5, .code yX5_valueOf cX5_valueOf 7 (some .int), .fieldLink RX5 18 "TestHall$Text" "codes" "[I", .fieldLink RX5 21 "TestHall$Text" "stack" "[I", .methodLink RX5 37 yX5_joined, .static yX5_joined, .code yX5_joined cX5_joined 3 (some .int)] ++ wsX50)
def wsX6_init : List Cond := .code yX6_init cX6_init 1 none :: ([.methodLink RX6 3 objectInit, .instanceMethod objectInit, .code objectInit ⟨#[0xb1]⟩ 1 none, .arrayClass .int, .fieldLink RX6 11 "TestHall$TextReader" "tokens" "[I", .fieldLink RX6 15 "TestHall$TextReader" "places" "[I"] ++ wsX60)
def wsX6_isBlank : List Cond := .code yX6_isBlank cX6_isBlank 1 (some .boolean) :: ([])
def wsX6_isLetter : List Cond := .code yX6_isLetter cX6_isLetter 1 (some .boolean) :: ([])
def wsX6_isDigit : List Cond := .code yX6_isDigit cX6_isDigit 1 (some .boolean) :: ([])
def wsX6_endOf : List Cond := .code yX6_endOf cX6_endOf 5 (some .int) :: ([.fieldLink RX6 22 "TestHall$TextReader" "signs" "[C", .fieldLink RX6 27 "TestHall$TextReader" "length" "I", .methodLink RX6 104 yX6_isLetter, .static yX6_isLetter, .initialized RX6, .code yX6_isLetter cX6_isLetter 1 (some .boolean), .methodLink RX6 107 yX6_isDigit, .static yX6_isDigit, .code yX6_isDigit cX6_isDigit 1 (some .boolean)] ++ wsX60)
def wsJ0_coder_7d493 : List Cond := .code yJ0_coder_7d493 cJ0_coder_7d493 1 (some .byte) :: ([.fieldLink RJ0 38 "java/lang/String" "COMPACT_STRINGS" "Z", .fieldLink RJ0 15 "java/lang/String" "coder" "B"])
def wsJ0_length_8abf5 : List Cond := .code yJ0_length_8abf5 cJ0_length_8abf5 1 (some .int) :: ([.fieldLink RJ0 9 "java/lang/String" "value" "[B", .methodLink RJ0 335 yJ0_coder_7d493, .instanceMethod yJ0_coder_7d493, .selects RJ0 yJ0_coder_7d493 yJ0_coder_7d493, .initialized RJ0, .code yJ0_coder_7d493 cJ0_coder_7d493 1 (some .byte), .fieldLink RJ0 38 "java/lang/String" "COMPACT_STRINGS" "Z", .fieldLink RJ0 15 "java/lang/String" "coder" "B"])
def wsJ0_isLatin1_aae02 : List Cond := .code yJ0_isLatin1_aae02 cJ0_isLatin1_aae02 1 (some .boolean) :: ([.fieldLink RJ0 38 "java/lang/String" "COMPACT_STRINGS" "Z", .fieldLink RJ0 15 "java/lang/String" "coder" "B"])
def wsJ3_checkIndex_8e157 : List Cond := .code yJ3_checkIndex_8e157 cJ3_checkIndex_8e157 3 (some .int) :: ([])
def wsJ0_checkIndex_df160 : List Cond := .code yJ0_checkIndex_df160 cJ0_checkIndex_df160 2 none :: ([.fieldLink RJ0 1053 "jdk/internal/util/Preconditions" "SIOOBE_FORMATTER" "Ljava/util/function/BiFunction;", .methodLink RJ0 1059 yJ3_checkIndex_8e157, .static yJ3_checkIndex_8e157, .initialized RJ3, .code yJ3_checkIndex_8e157 cJ3_checkIndex_8e157 3 (some .int)])
def wsJ1_charAt_3b067 : List Cond := .code yJ1_charAt_3b067 cJ1_charAt_3b067 2 (some .char) :: ([.methodLink RJ1 9 yJ0_checkIndex_df160, .static yJ0_checkIndex_df160, .initialized RJ0, .code yJ0_checkIndex_df160 cJ0_checkIndex_df160 2 none, .fieldLink RJ0 1053 "jdk/internal/util/Preconditions" "SIOOBE_FORMATTER" "Ljava/util/function/BiFunction;", .methodLink RJ0 1059 yJ3_checkIndex_8e157, .static yJ3_checkIndex_8e157, .initialized RJ3, .code yJ3_checkIndex_8e157 cJ3_checkIndex_8e157 3 (some .int)])
def wsJ2_length_9d52b : List Cond := .code yJ2_length_9d52b cJ2_length_9d52b 1 (some .int) :: ([])
def wsJ2_checkIndex_2214a : List Cond := .code yJ2_checkIndex_2214a cJ2_checkIndex_2214a 2 none :: ([.methodLink RJ2 48 yJ2_length_9d52b, .static yJ2_length_9d52b, .initialized RJ2, .code yJ2_length_9d52b cJ2_length_9d52b 1 (some .int), .methodLink RJ2 414 yJ0_checkIndex_df160, .static yJ0_checkIndex_df160, .initialized RJ0, .code yJ0_checkIndex_df160 cJ0_checkIndex_df160 2 none, .fieldLink RJ0 1053 "jdk/internal/util/Preconditions" "SIOOBE_FORMATTER" "Ljava/util/function/BiFunction;", .methodLink RJ0 1059 yJ3_checkIndex_8e157, .static yJ3_checkIndex_8e157, .initialized RJ3, .code yJ3_checkIndex_8e157 cJ3_checkIndex_8e157 3 (some .int)])
def wsJ2_getChar_3b067 : List Cond := .code yJ2_getChar_3b067 cJ2_getChar_3b067 2 (some .char) :: ([.fieldLink RJ2 44 "java/lang/StringUTF16" "$assertionsDisabled" "Z", .fieldLink RJ2 59 "java/lang/StringUTF16" "HI_BYTE_SHIFT" "I", .fieldLink RJ2 63 "java/lang/StringUTF16" "LO_BYTE_SHIFT" "I", .methodLink RJ2 48 yJ2_length_9d52b, .static yJ2_length_9d52b, .initialized RJ2, .code yJ2_length_9d52b cJ2_length_9d52b 1 (some .int)])
def wsJ2_charAt_3b067 : List Cond := .code yJ2_charAt_3b067 cJ2_charAt_3b067 2 (some .char) :: ([.methodLink RJ2 67 yJ2_checkIndex_2214a, .static yJ2_checkIndex_2214a, .initialized RJ2, .code yJ2_checkIndex_2214a cJ2_checkIndex_2214a 2 none, .methodLink RJ2 48 yJ2_length_9d52b, .static yJ2_length_9d52b, .code yJ2_length_9d52b cJ2_length_9d52b 1 (some .int), .methodLink RJ2 414 yJ0_checkIndex_df160, .static yJ0_checkIndex_df160, .initialized RJ0, .code yJ0_checkIndex_df160 cJ0_checkIndex_df160 2 none, .fieldLink RJ0 1053 "jdk/internal/util/Preconditions" "SIOOBE_FORMATTER" "Ljava/util/function/BiFunction;", .methodLink RJ0 1059 yJ3_checkIndex_8e157, .static yJ3_checkIndex_8e157, .initialized RJ3, .code yJ3_checkIndex_8e157 cJ3_checkIndex_8e157 3 (some .int), .methodLink RJ2 71 yJ2_getChar_3b067, .static yJ2_getChar_3b067, .code yJ2_getChar_3b067 cJ2_getChar_3b067 2 (some .char), .fieldLink RJ2 44 "java/lang/StringUTF16" "$assertionsDisabled" "Z", .fieldLink RJ2 59 "java/lang/StringUTF16" "HI_BYTE_SHIFT" "I", .fieldLink RJ2 63 "java/lang/StringUTF16" "LO_BYTE_SHIFT" "I"])
def wsJ0_charAt_5068e_r1 : List Cond := [Cond.fieldLink RJ0 9 "java/lang/String" "value" "[B", Cond.methodLink RJ0 492 yJ0_isLatin1_aae02, Cond.instanceMethod yJ0_isLatin1_aae02, Cond.selects RJ0 yJ0_isLatin1_aae02 yJ0_isLatin1_aae02, Cond.initialized RJ0, Cond.code yJ0_isLatin1_aae02 cJ0_isLatin1_aae02 1 (some .boolean), Cond.fieldLink RJ0 38 "java/lang/String" "COMPACT_STRINGS" "Z", Cond.fieldLink RJ0 15 "java/lang/String" "coder" "B", Cond.methodLink RJ0 495 yJ1_charAt_3b067, Cond.static yJ1_charAt_3b067, Cond.initialized RJ1, Cond.code yJ1_charAt_3b067 cJ1_charAt_3b067 2 (some .char), Cond.methodLink RJ1 9 yJ0_checkIndex_df160, Cond.static yJ0_checkIndex_df160, Cond.code yJ0_checkIndex_df160 cJ0_checkIndex_df160 2 none, Cond.fieldLink RJ0 1053 "jdk/internal/util/Preconditions" "SIOOBE_FORMATTER" "Ljava/util/function/BiFunction;", Cond.methodLink RJ0 1059 yJ3_checkIndex_8e157, Cond.static yJ3_checkIndex_8e157, Cond.initialized RJ3, Cond.code yJ3_checkIndex_8e157 cJ3_checkIndex_8e157 3 (some .int), Cond.methodLink RJ0 498 yJ2_charAt_3b067, Cond.static yJ2_charAt_3b067, Cond.initialized RJ2, Cond.code yJ2_charAt_3b067 cJ2_charAt_3b067 2 (some .char)]
def wsJ0_charAt_5068e_r2 : List Cond := [Cond.methodLink RJ2 67 yJ2_checkIndex_2214a, Cond.static yJ2_checkIndex_2214a, Cond.code yJ2_checkIndex_2214a cJ2_checkIndex_2214a 2 none, Cond.methodLink RJ2 48 yJ2_length_9d52b, Cond.static yJ2_length_9d52b, Cond.code yJ2_length_9d52b cJ2_length_9d52b 1 (some .int), Cond.methodLink RJ2 414 yJ0_checkIndex_df160, Cond.methodLink RJ2 71 yJ2_getChar_3b067, Cond.static yJ2_getChar_3b067, Cond.code yJ2_getChar_3b067 cJ2_getChar_3b067 2 (some .char), Cond.fieldLink RJ2 44 "java/lang/StringUTF16" "$assertionsDisabled" "Z", Cond.fieldLink RJ2 59 "java/lang/StringUTF16" "HI_BYTE_SHIFT" "I", Cond.fieldLink RJ2 63 "java/lang/StringUTF16" "LO_BYTE_SHIFT" "I"]
def wsJ0_charAt_5068e : List Cond := .code yJ0_charAt_5068e cJ0_charAt_5068e 2 (some .char) :: ((wsJ0_charAt_5068e_r1 ++ wsJ0_charAt_5068e_r2))
def wsX6_isSpelt_r1 : List Cond := [Cond.fieldLink RX6 22 "TestHall$TextReader" "signs" "[C", Cond.methodLink RX6 142 yJ0_length_8abf5, Cond.instanceMethod yJ0_length_8abf5, Cond.selects RJ0 yJ0_length_8abf5 yJ0_length_8abf5, Cond.initialized RJ0, Cond.code yJ0_length_8abf5 cJ0_length_8abf5 1 (some .int), Cond.fieldLink RJ0 9 "java/lang/String" "value" "[B", Cond.methodLink RJ0 335 yJ0_coder_7d493, Cond.instanceMethod yJ0_coder_7d493, Cond.selects RJ0 yJ0_coder_7d493 yJ0_coder_7d493, Cond.code yJ0_coder_7d493 cJ0_coder_7d493 1 (some .byte), Cond.fieldLink RJ0 38 "java/lang/String" "COMPACT_STRINGS" "Z", Cond.fieldLink RJ0 15 "java/lang/String" "coder" "B", Cond.methodLink RX6 146 yJ0_charAt_5068e, Cond.instanceMethod yJ0_charAt_5068e, Cond.selects RJ0 yJ0_charAt_5068e yJ0_charAt_5068e, Cond.code yJ0_charAt_5068e cJ0_charAt_5068e 2 (some .char), Cond.methodLink RJ0 492 yJ0_isLatin1_aae02, Cond.instanceMethod yJ0_isLatin1_aae02, Cond.selects RJ0 yJ0_isLatin1_aae02 yJ0_isLatin1_aae02, Cond.code yJ0_isLatin1_aae02 cJ0_isLatin1_aae02 1 (some .boolean), Cond.methodLink RJ0 495 yJ1_charAt_3b067, Cond.static yJ1_charAt_3b067, Cond.initialized RJ1]
def wsX6_isSpelt_r2 : List Cond := [Cond.code yJ1_charAt_3b067 cJ1_charAt_3b067 2 (some .char), Cond.methodLink RJ1 9 yJ0_checkIndex_df160, Cond.static yJ0_checkIndex_df160, Cond.code yJ0_checkIndex_df160 cJ0_checkIndex_df160 2 none, Cond.fieldLink RJ0 1053 "jdk/internal/util/Preconditions" "SIOOBE_FORMATTER" "Ljava/util/function/BiFunction;", Cond.methodLink RJ0 1059 yJ3_checkIndex_8e157, Cond.static yJ3_checkIndex_8e157, Cond.initialized RJ3, Cond.code yJ3_checkIndex_8e157 cJ3_checkIndex_8e157 3 (some .int), Cond.methodLink RJ0 498 yJ2_charAt_3b067, Cond.static yJ2_charAt_3b067, Cond.initialized RJ2, Cond.code yJ2_charAt_3b067 cJ2_charAt_3b067 2 (some .char), Cond.methodLink RJ2 67 yJ2_checkIndex_2214a, Cond.static yJ2_checkIndex_2214a, Cond.code yJ2_checkIndex_2214a cJ2_checkIndex_2214a 2 none, Cond.methodLink RJ2 48 yJ2_length_9d52b, Cond.static yJ2_length_9d52b, Cond.code yJ2_length_9d52b cJ2_length_9d52b 1 (some .int), Cond.methodLink RJ2 414 yJ0_checkIndex_df160, Cond.methodLink RJ2 71 yJ2_getChar_3b067, Cond.static yJ2_getChar_3b067, Cond.code yJ2_getChar_3b067 cJ2_getChar_3b067 2 (some .char), Cond.fieldLink RJ2 44 "java/lang/StringUTF16" "$assertionsDisabled" "Z"]
def wsX6_isSpelt_r3 : List Cond := [Cond.fieldLink RJ2 59 "java/lang/StringUTF16" "HI_BYTE_SHIFT" "I", Cond.fieldLink RJ2 63 "java/lang/StringUTF16" "LO_BYTE_SHIFT" "I"]
def wsX6_isSpelt : List Cond := .code yX6_isSpelt cX6_isSpelt 5 (some .boolean) :: ((wsX6_isSpelt_r1 ++ (wsX6_isSpelt_r2 ++ wsX6_isSpelt_r3)) ++ wsX60)
def wsX6_wordOf_r1 : List Cond := [Cond.methodLink RX6 122 yX6_isSpelt, Cond.instanceMethod yX6_isSpelt, Cond.selects RX6 yX6_isSpelt yX6_isSpelt, Cond.initialized RX6, Cond.code yX6_isSpelt cX6_isSpelt 5 (some .boolean), Cond.fieldLink RX6 22 "TestHall$TextReader" "signs" "[C", Cond.methodLink RX6 142 yJ0_length_8abf5, Cond.instanceMethod yJ0_length_8abf5, Cond.selects RJ0 yJ0_length_8abf5 yJ0_length_8abf5, Cond.initialized RJ0, Cond.code yJ0_length_8abf5 cJ0_length_8abf5 1 (some .int), Cond.fieldLink RJ0 9 "java/lang/String" "value" "[B", Cond.methodLink RJ0 335 yJ0_coder_7d493, Cond.instanceMethod yJ0_coder_7d493, Cond.selects RJ0 yJ0_coder_7d493 yJ0_coder_7d493, Cond.code yJ0_coder_7d493 cJ0_coder_7d493 1 (some .byte), Cond.fieldLink RJ0 38 "java/lang/String" "COMPACT_STRINGS" "Z", Cond.fieldLink RJ0 15 "java/lang/String" "coder" "B", Cond.methodLink RX6 146 yJ0_charAt_5068e, Cond.instanceMethod yJ0_charAt_5068e, Cond.selects RJ0 yJ0_charAt_5068e yJ0_charAt_5068e, Cond.code yJ0_charAt_5068e cJ0_charAt_5068e 2 (some .char), Cond.methodLink RJ0 492 yJ0_isLatin1_aae02, Cond.instanceMethod yJ0_isLatin1_aae02]
def wsX6_wordOf_r2 : List Cond := [Cond.selects RJ0 yJ0_isLatin1_aae02 yJ0_isLatin1_aae02, Cond.code yJ0_isLatin1_aae02 cJ0_isLatin1_aae02 1 (some .boolean), Cond.methodLink RJ0 495 yJ1_charAt_3b067, Cond.static yJ1_charAt_3b067, Cond.initialized RJ1, Cond.code yJ1_charAt_3b067 cJ1_charAt_3b067 2 (some .char), Cond.methodLink RJ1 9 yJ0_checkIndex_df160, Cond.static yJ0_checkIndex_df160, Cond.code yJ0_checkIndex_df160 cJ0_checkIndex_df160 2 none, Cond.fieldLink RJ0 1053 "jdk/internal/util/Preconditions" "SIOOBE_FORMATTER" "Ljava/util/function/BiFunction;", Cond.methodLink RJ0 1059 yJ3_checkIndex_8e157, Cond.static yJ3_checkIndex_8e157, Cond.initialized RJ3, Cond.code yJ3_checkIndex_8e157 cJ3_checkIndex_8e157 3 (some .int), Cond.methodLink RJ0 498 yJ2_charAt_3b067, Cond.static yJ2_charAt_3b067, Cond.initialized RJ2, Cond.code yJ2_charAt_3b067 cJ2_charAt_3b067 2 (some .char), Cond.methodLink RJ2 67 yJ2_checkIndex_2214a, Cond.static yJ2_checkIndex_2214a, Cond.code yJ2_checkIndex_2214a cJ2_checkIndex_2214a 2 none, Cond.methodLink RJ2 48 yJ2_length_9d52b, Cond.static yJ2_length_9d52b, Cond.code yJ2_length_9d52b cJ2_length_9d52b 1 (some .int)]
def wsX6_wordOf_r3 : List Cond := [Cond.methodLink RJ2 414 yJ0_checkIndex_df160, Cond.methodLink RJ2 71 yJ2_getChar_3b067, Cond.static yJ2_getChar_3b067, Cond.code yJ2_getChar_3b067 cJ2_getChar_3b067 2 (some .char), Cond.fieldLink RJ2 44 "java/lang/StringUTF16" "$assertionsDisabled" "Z", Cond.fieldLink RJ2 59 "java/lang/StringUTF16" "HI_BYTE_SHIFT" "I", Cond.fieldLink RJ2 63 "java/lang/StringUTF16" "LO_BYTE_SHIFT" "I"]
def wsX6_wordOf : List Cond := .code yX6_wordOf cX6_wordOf 3 (some .int) :: ((wsX6_wordOf_r1 ++ (wsX6_wordOf_r2 ++ wsX6_wordOf_r3)) ++ wsX60)
def wsX6_numberOf : List Cond := .code yX6_numberOf cX6_numberOf 5 (some .int) :: ([.fieldLink RX6 22 "TestHall$TextReader" "signs" "[C"] ++ wsX60)
def wsX6_signOf : List Cond := .code yX6_signOf cX6_signOf 1 (some .int) :: ([])
def wsX6_tokenOf_r1 : List Cond := [Cond.fieldLink RX6 22 "TestHall$TextReader" "signs" "[C", Cond.methodLink RX6 104 yX6_isLetter, Cond.static yX6_isLetter, Cond.initialized RX6, Cond.code yX6_isLetter cX6_isLetter 1 (some .boolean), Cond.methodLink RX6 110 yX6_wordOf, Cond.instanceMethod yX6_wordOf, Cond.selects RX6 yX6_wordOf yX6_wordOf, Cond.code yX6_wordOf cX6_wordOf 3 (some .int), Cond.methodLink RX6 122 yX6_isSpelt, Cond.instanceMethod yX6_isSpelt, Cond.selects RX6 yX6_isSpelt yX6_isSpelt, Cond.code yX6_isSpelt cX6_isSpelt 5 (some .boolean), Cond.methodLink RX6 142 yJ0_length_8abf5, Cond.instanceMethod yJ0_length_8abf5, Cond.selects RJ0 yJ0_length_8abf5 yJ0_length_8abf5, Cond.initialized RJ0, Cond.code yJ0_length_8abf5 cJ0_length_8abf5 1 (some .int), Cond.fieldLink RJ0 9 "java/lang/String" "value" "[B", Cond.methodLink RJ0 335 yJ0_coder_7d493, Cond.instanceMethod yJ0_coder_7d493, Cond.selects RJ0 yJ0_coder_7d493 yJ0_coder_7d493, Cond.code yJ0_coder_7d493 cJ0_coder_7d493 1 (some .byte), Cond.fieldLink RJ0 38 "java/lang/String" "COMPACT_STRINGS" "Z"]
def wsX6_tokenOf_r2 : List Cond := [Cond.fieldLink RJ0 15 "java/lang/String" "coder" "B", Cond.methodLink RX6 146 yJ0_charAt_5068e, Cond.instanceMethod yJ0_charAt_5068e, Cond.selects RJ0 yJ0_charAt_5068e yJ0_charAt_5068e, Cond.code yJ0_charAt_5068e cJ0_charAt_5068e 2 (some .char), Cond.methodLink RJ0 492 yJ0_isLatin1_aae02, Cond.instanceMethod yJ0_isLatin1_aae02, Cond.selects RJ0 yJ0_isLatin1_aae02 yJ0_isLatin1_aae02, Cond.code yJ0_isLatin1_aae02 cJ0_isLatin1_aae02 1 (some .boolean), Cond.methodLink RJ0 495 yJ1_charAt_3b067, Cond.static yJ1_charAt_3b067, Cond.initialized RJ1, Cond.code yJ1_charAt_3b067 cJ1_charAt_3b067 2 (some .char), Cond.methodLink RJ1 9 yJ0_checkIndex_df160, Cond.static yJ0_checkIndex_df160, Cond.code yJ0_checkIndex_df160 cJ0_checkIndex_df160 2 none, Cond.fieldLink RJ0 1053 "jdk/internal/util/Preconditions" "SIOOBE_FORMATTER" "Ljava/util/function/BiFunction;", Cond.methodLink RJ0 1059 yJ3_checkIndex_8e157, Cond.static yJ3_checkIndex_8e157, Cond.initialized RJ3, Cond.code yJ3_checkIndex_8e157 cJ3_checkIndex_8e157 3 (some .int), Cond.methodLink RJ0 498 yJ2_charAt_3b067, Cond.static yJ2_charAt_3b067, Cond.initialized RJ2]
def wsX6_tokenOf_r3 : List Cond := [Cond.code yJ2_charAt_3b067 cJ2_charAt_3b067 2 (some .char), Cond.methodLink RJ2 67 yJ2_checkIndex_2214a, Cond.static yJ2_checkIndex_2214a, Cond.code yJ2_checkIndex_2214a cJ2_checkIndex_2214a 2 none, Cond.methodLink RJ2 48 yJ2_length_9d52b, Cond.static yJ2_length_9d52b, Cond.code yJ2_length_9d52b cJ2_length_9d52b 1 (some .int), Cond.methodLink RJ2 414 yJ0_checkIndex_df160, Cond.methodLink RJ2 71 yJ2_getChar_3b067, Cond.static yJ2_getChar_3b067, Cond.code yJ2_getChar_3b067 cJ2_getChar_3b067 2 (some .char), Cond.fieldLink RJ2 44 "java/lang/StringUTF16" "$assertionsDisabled" "Z", Cond.fieldLink RJ2 59 "java/lang/StringUTF16" "HI_BYTE_SHIFT" "I", Cond.fieldLink RJ2 63 "java/lang/StringUTF16" "LO_BYTE_SHIFT" "I", Cond.methodLink RX6 107 yX6_isDigit, Cond.static yX6_isDigit, Cond.code yX6_isDigit cX6_isDigit 1 (some .boolean), Cond.methodLink RX6 113 yX6_numberOf, Cond.instanceMethod yX6_numberOf, Cond.selects RX6 yX6_numberOf yX6_numberOf, Cond.code yX6_numberOf cX6_numberOf 5 (some .int), Cond.methodLink RX6 116 yX6_signOf, Cond.static yX6_signOf, Cond.code yX6_signOf cX6_signOf 1 (some .int)]
def wsX6_tokenOf : List Cond := .code yX6_tokenOf cX6_tokenOf 3 (some .int) :: ((wsX6_tokenOf_r1 ++ (wsX6_tokenOf_r2 ++ wsX6_tokenOf_r3)) ++ wsX60)
def wsX6_addToken : List Cond := .code yX6_addToken cX6_addToken 3 none :: ([.fieldLink RX6 59 "TestHall$TextReader" "size" "I", .fieldLink RX6 11 "TestHall$TextReader" "tokens" "[I", .fieldLink RX6 15 "TestHall$TextReader" "places" "[I"] ++ wsX60)
def wsX6_scan_r1 : List Cond := [Cond.fieldLink RX6 59 "TestHall$TextReader" "size" "I", Cond.fieldLink RX6 27 "TestHall$TextReader" "length" "I", Cond.fieldLink RX6 22 "TestHall$TextReader" "signs" "[C", Cond.methodLink RX6 88 yX6_isBlank, Cond.static yX6_isBlank, Cond.initialized RX6, Cond.code yX6_isBlank cX6_isBlank 1 (some .boolean), Cond.methodLink RX6 92 yX6_endOf, Cond.instanceMethod yX6_endOf, Cond.selects RX6 yX6_endOf yX6_endOf, Cond.code yX6_endOf cX6_endOf 5 (some .int), Cond.methodLink RX6 104 yX6_isLetter, Cond.static yX6_isLetter, Cond.code yX6_isLetter cX6_isLetter 1 (some .boolean), Cond.methodLink RX6 107 yX6_isDigit, Cond.static yX6_isDigit, Cond.code yX6_isDigit cX6_isDigit 1 (some .boolean), Cond.methodLink RX6 96 yX6_tokenOf, Cond.instanceMethod yX6_tokenOf, Cond.selects RX6 yX6_tokenOf yX6_tokenOf, Cond.code yX6_tokenOf cX6_tokenOf 3 (some .int), Cond.methodLink RX6 110 yX6_wordOf, Cond.instanceMethod yX6_wordOf, Cond.selects RX6 yX6_wordOf yX6_wordOf]
def wsX6_scan_r2 : List Cond := [Cond.code yX6_wordOf cX6_wordOf 3 (some .int), Cond.methodLink RX6 122 yX6_isSpelt, Cond.instanceMethod yX6_isSpelt, Cond.selects RX6 yX6_isSpelt yX6_isSpelt, Cond.code yX6_isSpelt cX6_isSpelt 5 (some .boolean), Cond.methodLink RX6 142 yJ0_length_8abf5, Cond.instanceMethod yJ0_length_8abf5, Cond.selects RJ0 yJ0_length_8abf5 yJ0_length_8abf5, Cond.initialized RJ0, Cond.code yJ0_length_8abf5 cJ0_length_8abf5 1 (some .int), Cond.fieldLink RJ0 9 "java/lang/String" "value" "[B", Cond.methodLink RJ0 335 yJ0_coder_7d493, Cond.instanceMethod yJ0_coder_7d493, Cond.selects RJ0 yJ0_coder_7d493 yJ0_coder_7d493, Cond.code yJ0_coder_7d493 cJ0_coder_7d493 1 (some .byte), Cond.fieldLink RJ0 38 "java/lang/String" "COMPACT_STRINGS" "Z", Cond.fieldLink RJ0 15 "java/lang/String" "coder" "B", Cond.methodLink RX6 146 yJ0_charAt_5068e, Cond.instanceMethod yJ0_charAt_5068e, Cond.selects RJ0 yJ0_charAt_5068e yJ0_charAt_5068e, Cond.code yJ0_charAt_5068e cJ0_charAt_5068e 2 (some .char), Cond.methodLink RJ0 492 yJ0_isLatin1_aae02, Cond.instanceMethod yJ0_isLatin1_aae02, Cond.selects RJ0 yJ0_isLatin1_aae02 yJ0_isLatin1_aae02]
def wsX6_scan_r3 : List Cond := [Cond.code yJ0_isLatin1_aae02 cJ0_isLatin1_aae02 1 (some .boolean), Cond.methodLink RJ0 495 yJ1_charAt_3b067, Cond.static yJ1_charAt_3b067, Cond.initialized RJ1, Cond.code yJ1_charAt_3b067 cJ1_charAt_3b067 2 (some .char), Cond.methodLink RJ1 9 yJ0_checkIndex_df160, Cond.static yJ0_checkIndex_df160, Cond.code yJ0_checkIndex_df160 cJ0_checkIndex_df160 2 none, Cond.fieldLink RJ0 1053 "jdk/internal/util/Preconditions" "SIOOBE_FORMATTER" "Ljava/util/function/BiFunction;", Cond.methodLink RJ0 1059 yJ3_checkIndex_8e157, Cond.static yJ3_checkIndex_8e157, Cond.initialized RJ3, Cond.code yJ3_checkIndex_8e157 cJ3_checkIndex_8e157 3 (some .int), Cond.methodLink RJ0 498 yJ2_charAt_3b067, Cond.static yJ2_charAt_3b067, Cond.initialized RJ2, Cond.code yJ2_charAt_3b067 cJ2_charAt_3b067 2 (some .char), Cond.methodLink RJ2 67 yJ2_checkIndex_2214a, Cond.static yJ2_checkIndex_2214a, Cond.code yJ2_checkIndex_2214a cJ2_checkIndex_2214a 2 none, Cond.methodLink RJ2 48 yJ2_length_9d52b, Cond.static yJ2_length_9d52b, Cond.code yJ2_length_9d52b cJ2_length_9d52b 1 (some .int), Cond.methodLink RJ2 414 yJ0_checkIndex_df160]
def wsX6_scan_r4 : List Cond := [Cond.methodLink RJ2 71 yJ2_getChar_3b067, Cond.static yJ2_getChar_3b067, Cond.code yJ2_getChar_3b067 cJ2_getChar_3b067 2 (some .char), Cond.fieldLink RJ2 44 "java/lang/StringUTF16" "$assertionsDisabled" "Z", Cond.fieldLink RJ2 59 "java/lang/StringUTF16" "HI_BYTE_SHIFT" "I", Cond.fieldLink RJ2 63 "java/lang/StringUTF16" "LO_BYTE_SHIFT" "I", Cond.methodLink RX6 113 yX6_numberOf, Cond.instanceMethod yX6_numberOf, Cond.selects RX6 yX6_numberOf yX6_numberOf, Cond.code yX6_numberOf cX6_numberOf 5 (some .int), Cond.methodLink RX6 116 yX6_signOf, Cond.static yX6_signOf, Cond.code yX6_signOf cX6_signOf 1 (some .int), Cond.methodLink RX6 100 yX6_addToken, Cond.instanceMethod yX6_addToken, Cond.selects RX6 yX6_addToken yX6_addToken, Cond.code yX6_addToken cX6_addToken 3 none, Cond.fieldLink RX6 11 "TestHall$TextReader" "tokens" "[I", Cond.fieldLink RX6 15 "TestHall$TextReader" "places" "[I"]
def wsX6_scan : List Cond := .code yX6_scan cX6_scan 3 none :: ((wsX6_scan_r1 ++ (wsX6_scan_r2 ++ (wsX6_scan_r3 ++ wsX6_scan_r4))) ++ wsX60)
def wsX6_peek : List Cond := .code yX6_peek cX6_peek 1 (some .int) :: ([.fieldLink RX6 40 "TestHall$TextReader" "next" "I", .fieldLink RX6 59 "TestHall$TextReader" "size" "I", .fieldLink RX6 11 "TestHall$TextReader" "tokens" "[I"] ++ wsX60)
def wsX6_take : List Cond := .code yX6_take cX6_take 2 (some .boolean) :: ([.fieldLink RX6 40 "TestHall$TextReader" "next" "I", .fieldLink RX6 59 "TestHall$TextReader" "size" "I", .fieldLink RX6 11 "TestHall$TextReader" "tokens" "[I"] ++ wsX60)
def wsX6_readCondition_r1 : List Cond := [Cond.fieldLink RX6 28 "TestHall$TextReader" "text" "LTestHall$Text;", Cond.methodLink RX6 76 yX6_readTest, Cond.instanceMethod yX6_readTest, Cond.selects RX6 yX6_readTest yX6_readTest, Cond.initialized RX6, Cond.methodLink RX6 65 yX6_take, Cond.instanceMethod yX6_take, Cond.selects RX6 yX6_take yX6_take, Cond.code yX6_take cX6_take 2 (some .boolean), Cond.fieldLink RX6 40 "TestHall$TextReader" "next" "I", Cond.fieldLink RX6 59 "TestHall$TextReader" "size" "I", Cond.fieldLink RX6 11 "TestHall$TextReader" "tokens" "[I", Cond.methodLink RX6 79 yX5_addCode, Cond.instanceMethod yX5_addCode, Cond.selects RX5 yX5_addCode yX5_addCode, Cond.initialized RX5, Cond.code yX5_addCode cX5_addCode 2 none, Cond.fieldLink RX5 28 "TestHall$Text" "size" "I", Cond.fieldLink RX5 18 "TestHall$Text" "codes" "[I", Cond.code yX6_readPart cX6_readPart 3 (some .boolean), Cond.fieldLink RX6 43 "TestHall$TextReader" "fault" "I", Cond.methodLink RX6 46 yX6_peek, Cond.instanceMethod yX6_peek, Cond.selects RX6 yX6_peek yX6_peek]
def wsX6_readCondition_r2 : List Cond := [Cond.code yX6_peek cX6_peek 1 (some .int), Cond.methodLink RX6 69 yX6_readCondition, Cond.instanceMethod yX6_readCondition, Cond.selects RX6 yX6_readCondition yX6_readCondition, Cond.code yX6_readSum cX6_readSum 4 (some .boolean), Cond.methodLink RX6 85 yX6_readPart, Cond.instanceMethod yX6_readPart, Cond.selects RX6 yX6_readPart yX6_readPart, Cond.code yX6_readTest cX6_readTest 3 (some .boolean), Cond.methodLink RX6 82 yX6_readSum, Cond.instanceMethod yX6_readSum, Cond.selects RX6 yX6_readSum yX6_readSum]
def wsX6_readCondition : List Cond := .code yX6_readCondition cX6_readCondition 3 (some .boolean) :: ((wsX6_readCondition_r1 ++ wsX6_readCondition_r2) ++ wsX60 ++ wsX50)
def wsX6_readPart_r1 : List Cond := [Cond.fieldLink RX6 43 "TestHall$TextReader" "fault" "I", Cond.fieldLink RX6 40 "TestHall$TextReader" "next" "I", Cond.fieldLink RX6 28 "TestHall$TextReader" "text" "LTestHall$Text;", Cond.methodLink RX6 46 yX6_peek, Cond.instanceMethod yX6_peek, Cond.selects RX6 yX6_peek yX6_peek, Cond.initialized RX6, Cond.code yX6_peek cX6_peek 1 (some .int), Cond.fieldLink RX6 59 "TestHall$TextReader" "size" "I", Cond.fieldLink RX6 11 "TestHall$TextReader" "tokens" "[I", Cond.methodLink RX6 69 yX6_readCondition, Cond.instanceMethod yX6_readCondition, Cond.selects RX6 yX6_readCondition yX6_readCondition, Cond.methodLink RX6 65 yX6_take, Cond.instanceMethod yX6_take, Cond.selects RX6 yX6_take yX6_take, Cond.code yX6_take cX6_take 2 (some .boolean), Cond.methodLink RX6 79 yX5_addCode, Cond.instanceMethod yX5_addCode, Cond.selects RX5 yX5_addCode yX5_addCode, Cond.initialized RX5, Cond.code yX5_addCode cX5_addCode 2 none, Cond.fieldLink RX5 28 "TestHall$Text" "size" "I", Cond.fieldLink RX5 18 "TestHall$Text" "codes" "[I"]
def wsX6_readPart_r2 : List Cond := [Cond.code yX6_readCondition cX6_readCondition 3 (some .boolean), Cond.methodLink RX6 76 yX6_readTest, Cond.instanceMethod yX6_readTest, Cond.selects RX6 yX6_readTest yX6_readTest, Cond.code yX6_readSum cX6_readSum 4 (some .boolean), Cond.methodLink RX6 85 yX6_readPart, Cond.instanceMethod yX6_readPart, Cond.selects RX6 yX6_readPart yX6_readPart, Cond.code yX6_readTest cX6_readTest 3 (some .boolean), Cond.methodLink RX6 82 yX6_readSum, Cond.instanceMethod yX6_readSum, Cond.selects RX6 yX6_readSum yX6_readSum]
def wsX6_readPart : List Cond := .code yX6_readPart cX6_readPart 3 (some .boolean) :: ((wsX6_readPart_r1 ++ wsX6_readPart_r2) ++ wsX60 ++ wsX50)
def wsX6_readSum_r1 : List Cond := [Cond.fieldLink RX6 40 "TestHall$TextReader" "next" "I", Cond.fieldLink RX6 28 "TestHall$TextReader" "text" "LTestHall$Text;", Cond.methodLink RX6 85 yX6_readPart, Cond.instanceMethod yX6_readPart, Cond.selects RX6 yX6_readPart yX6_readPart, Cond.initialized RX6, Cond.methodLink RX6 46 yX6_peek, Cond.instanceMethod yX6_peek, Cond.selects RX6 yX6_peek yX6_peek, Cond.code yX6_peek cX6_peek 1 (some .int), Cond.fieldLink RX6 59 "TestHall$TextReader" "size" "I", Cond.fieldLink RX6 11 "TestHall$TextReader" "tokens" "[I", Cond.methodLink RX6 79 yX5_addCode, Cond.instanceMethod yX5_addCode, Cond.selects RX5 yX5_addCode yX5_addCode, Cond.initialized RX5, Cond.code yX5_addCode cX5_addCode 2 none, Cond.fieldLink RX5 28 "TestHall$Text" "size" "I", Cond.fieldLink RX5 18 "TestHall$Text" "codes" "[I", Cond.code yX6_readCondition cX6_readCondition 3 (some .boolean), Cond.methodLink RX6 76 yX6_readTest, Cond.instanceMethod yX6_readTest, Cond.selects RX6 yX6_readTest yX6_readTest, Cond.methodLink RX6 65 yX6_take]
def wsX6_readSum_r2 : List Cond := [Cond.instanceMethod yX6_take, Cond.selects RX6 yX6_take yX6_take, Cond.code yX6_take cX6_take 2 (some .boolean), Cond.code yX6_readPart cX6_readPart 3 (some .boolean), Cond.fieldLink RX6 43 "TestHall$TextReader" "fault" "I", Cond.methodLink RX6 69 yX6_readCondition, Cond.instanceMethod yX6_readCondition, Cond.selects RX6 yX6_readCondition yX6_readCondition, Cond.code yX6_readTest cX6_readTest 3 (some .boolean), Cond.methodLink RX6 82 yX6_readSum, Cond.instanceMethod yX6_readSum, Cond.selects RX6 yX6_readSum yX6_readSum]
def wsX6_readSum : List Cond := .code yX6_readSum cX6_readSum 4 (some .boolean) :: ((wsX6_readSum_r1 ++ wsX6_readSum_r2) ++ wsX60 ++ wsX50)
def wsX6_readTest_r1 : List Cond := [Cond.fieldLink RX6 40 "TestHall$TextReader" "next" "I", Cond.fieldLink RX6 28 "TestHall$TextReader" "text" "LTestHall$Text;", Cond.methodLink RX6 82 yX6_readSum, Cond.instanceMethod yX6_readSum, Cond.selects RX6 yX6_readSum yX6_readSum, Cond.initialized RX6, Cond.methodLink RX6 46 yX6_peek, Cond.instanceMethod yX6_peek, Cond.selects RX6 yX6_peek yX6_peek, Cond.code yX6_peek cX6_peek 1 (some .int), Cond.fieldLink RX6 59 "TestHall$TextReader" "size" "I", Cond.fieldLink RX6 11 "TestHall$TextReader" "tokens" "[I", Cond.methodLink RX6 79 yX5_addCode, Cond.instanceMethod yX5_addCode, Cond.selects RX5 yX5_addCode yX5_addCode, Cond.initialized RX5, Cond.code yX5_addCode cX5_addCode 2 none, Cond.fieldLink RX5 28 "TestHall$Text" "size" "I", Cond.fieldLink RX5 18 "TestHall$Text" "codes" "[I", Cond.code yX6_readCondition cX6_readCondition 3 (some .boolean), Cond.methodLink RX6 76 yX6_readTest, Cond.instanceMethod yX6_readTest, Cond.selects RX6 yX6_readTest yX6_readTest, Cond.methodLink RX6 65 yX6_take]
def wsX6_readTest_r2 : List Cond := [Cond.instanceMethod yX6_take, Cond.selects RX6 yX6_take yX6_take, Cond.code yX6_take cX6_take 2 (some .boolean), Cond.code yX6_readPart cX6_readPart 3 (some .boolean), Cond.fieldLink RX6 43 "TestHall$TextReader" "fault" "I", Cond.methodLink RX6 69 yX6_readCondition, Cond.instanceMethod yX6_readCondition, Cond.selects RX6 yX6_readCondition yX6_readCondition, Cond.code yX6_readSum cX6_readSum 4 (some .boolean), Cond.methodLink RX6 85 yX6_readPart, Cond.instanceMethod yX6_readPart, Cond.selects RX6 yX6_readPart yX6_readPart]
def wsX6_readTest : List Cond := .code yX6_readTest cX6_readTest 3 (some .boolean) :: ((wsX6_readTest_r1 ++ wsX6_readTest_r2) ++ wsX60 ++ wsX50)
def wsX6_readLine_r1 : List Cond := [Cond.fieldLink RX6 28 "TestHall$TextReader" "text" "LTestHall$Text;", Cond.fieldLink RX6 62 "TestHall$Text" "lines" "I", Cond.fieldLink RX6 43 "TestHall$TextReader" "fault" "I", Cond.fieldLink RX6 40 "TestHall$TextReader" "next" "I", Cond.methodLink RX6 46 yX6_peek, Cond.instanceMethod yX6_peek, Cond.selects RX6 yX6_peek yX6_peek, Cond.initialized RX6, Cond.code yX6_peek cX6_peek 1 (some .int), Cond.fieldLink RX6 59 "TestHall$TextReader" "size" "I", Cond.fieldLink RX6 11 "TestHall$TextReader" "tokens" "[I", Cond.methodLink RX6 65 yX6_take, Cond.instanceMethod yX6_take, Cond.selects RX6 yX6_take yX6_take, Cond.code yX6_take cX6_take 2 (some .boolean), Cond.methodLink RX6 69 yX6_readCondition, Cond.instanceMethod yX6_readCondition, Cond.selects RX6 yX6_readCondition yX6_readCondition, Cond.code yX6_readCondition cX6_readCondition 3 (some .boolean), Cond.methodLink RX6 76 yX6_readTest, Cond.instanceMethod yX6_readTest, Cond.selects RX6 yX6_readTest yX6_readTest, Cond.methodLink RX6 79 yX5_addCode, Cond.instanceMethod yX5_addCode]
def wsX6_readLine_r2 : List Cond := [Cond.selects RX5 yX5_addCode yX5_addCode, Cond.initialized RX5, Cond.code yX5_addCode cX5_addCode 2 none, Cond.fieldLink RX5 28 "TestHall$Text" "size" "I", Cond.fieldLink RX5 18 "TestHall$Text" "codes" "[I", Cond.code yX6_readPart cX6_readPart 3 (some .boolean), Cond.code yX6_readSum cX6_readSum 4 (some .boolean), Cond.methodLink RX6 85 yX6_readPart, Cond.instanceMethod yX6_readPart, Cond.selects RX6 yX6_readPart yX6_readPart, Cond.code yX6_readTest cX6_readTest 3 (some .boolean), Cond.methodLink RX6 82 yX6_readSum, Cond.instanceMethod yX6_readSum, Cond.selects RX6 yX6_readSum yX6_readSum, Cond.methodLink RX6 72 yX5_addLine, Cond.instanceMethod yX5_addLine, Cond.selects RX5 yX5_addLine yX5_addLine, Cond.code yX5_addLine cX5_addLine 2 none, Cond.fieldLink RX5 24 "TestHall$Text" "lines" "I", Cond.fieldLink RX5 9 "TestHall$Text" "firsts" "[I", Cond.fieldLink RX5 13 "TestHall$Text" "ends" "[I"]
def wsX6_readLine : List Cond := .code yX6_readLine cX6_readLine 2 (some .boolean) :: ((wsX6_readLine_r1 ++ wsX6_readLine_r2) ++ wsX60 ++ wsX50)
def wsX6_placeOfNext : List Cond := .code yX6_placeOfNext cX6_placeOfNext 1 (some .int) :: ([.fieldLink RX6 40 "TestHall$TextReader" "next" "I", .fieldLink RX6 59 "TestHall$TextReader" "size" "I", .fieldLink RX6 15 "TestHall$TextReader" "places" "[I", .fieldLink RX6 27 "TestHall$TextReader" "length" "I"] ++ wsX60)
def wsX6_read_r1 : List Cond := [Cond.fieldLink RX6 18 "TestHall$Tape" "signs" "[C", Cond.fieldLink RX6 22 "TestHall$TextReader" "signs" "[C", Cond.fieldLink RX6 23 "TestHall$Tape" "length" "I", Cond.fieldLink RX6 27 "TestHall$TextReader" "length" "I", Cond.fieldLink RX6 28 "TestHall$TextReader" "text" "LTestHall$Text;", Cond.fieldLink RX6 40 "TestHall$TextReader" "next" "I", Cond.fieldLink RX6 43 "TestHall$TextReader" "fault" "I", Cond.methodLink RX6 32 yX5_clear, Cond.instanceMethod yX5_clear, Cond.selects RX5 yX5_clear yX5_clear, Cond.initialized RX5, Cond.code yX5_clear cX5_clear 1 none, Cond.fieldLink RX5 24 "TestHall$Text" "lines" "I", Cond.fieldLink RX5 28 "TestHall$Text" "size" "I", Cond.methodLink RX6 37 yX6_scan, Cond.instanceMethod yX6_scan, Cond.selects RX6 yX6_scan yX6_scan, Cond.initialized RX6, Cond.code yX6_scan cX6_scan 3 none, Cond.fieldLink RX6 59 "TestHall$TextReader" "size" "I", Cond.methodLink RX6 88 yX6_isBlank, Cond.static yX6_isBlank, Cond.code yX6_isBlank cX6_isBlank 1 (some .boolean), Cond.methodLink RX6 92 yX6_endOf]
def wsX6_read_r2 : List Cond := [Cond.instanceMethod yX6_endOf, Cond.selects RX6 yX6_endOf yX6_endOf, Cond.code yX6_endOf cX6_endOf 5 (some .int), Cond.methodLink RX6 104 yX6_isLetter, Cond.static yX6_isLetter, Cond.code yX6_isLetter cX6_isLetter 1 (some .boolean), Cond.methodLink RX6 107 yX6_isDigit, Cond.static yX6_isDigit, Cond.code yX6_isDigit cX6_isDigit 1 (some .boolean), Cond.methodLink RX6 96 yX6_tokenOf, Cond.instanceMethod yX6_tokenOf, Cond.selects RX6 yX6_tokenOf yX6_tokenOf, Cond.code yX6_tokenOf cX6_tokenOf 3 (some .int), Cond.methodLink RX6 110 yX6_wordOf, Cond.instanceMethod yX6_wordOf, Cond.selects RX6 yX6_wordOf yX6_wordOf, Cond.code yX6_wordOf cX6_wordOf 3 (some .int), Cond.methodLink RX6 122 yX6_isSpelt, Cond.instanceMethod yX6_isSpelt, Cond.selects RX6 yX6_isSpelt yX6_isSpelt, Cond.code yX6_isSpelt cX6_isSpelt 5 (some .boolean), Cond.methodLink RX6 142 yJ0_length_8abf5, Cond.instanceMethod yJ0_length_8abf5, Cond.selects RJ0 yJ0_length_8abf5 yJ0_length_8abf5]
def wsX6_read_r3 : List Cond := [Cond.initialized RJ0, Cond.code yJ0_length_8abf5 cJ0_length_8abf5 1 (some .int), Cond.fieldLink RJ0 9 "java/lang/String" "value" "[B", Cond.methodLink RJ0 335 yJ0_coder_7d493, Cond.instanceMethod yJ0_coder_7d493, Cond.selects RJ0 yJ0_coder_7d493 yJ0_coder_7d493, Cond.code yJ0_coder_7d493 cJ0_coder_7d493 1 (some .byte), Cond.fieldLink RJ0 38 "java/lang/String" "COMPACT_STRINGS" "Z", Cond.fieldLink RJ0 15 "java/lang/String" "coder" "B", Cond.methodLink RX6 146 yJ0_charAt_5068e, Cond.instanceMethod yJ0_charAt_5068e, Cond.selects RJ0 yJ0_charAt_5068e yJ0_charAt_5068e, Cond.code yJ0_charAt_5068e cJ0_charAt_5068e 2 (some .char), Cond.methodLink RJ0 492 yJ0_isLatin1_aae02, Cond.instanceMethod yJ0_isLatin1_aae02, Cond.selects RJ0 yJ0_isLatin1_aae02 yJ0_isLatin1_aae02, Cond.code yJ0_isLatin1_aae02 cJ0_isLatin1_aae02 1 (some .boolean), Cond.methodLink RJ0 495 yJ1_charAt_3b067, Cond.static yJ1_charAt_3b067, Cond.initialized RJ1, Cond.code yJ1_charAt_3b067 cJ1_charAt_3b067 2 (some .char), Cond.methodLink RJ1 9 yJ0_checkIndex_df160, Cond.static yJ0_checkIndex_df160, Cond.code yJ0_checkIndex_df160 cJ0_checkIndex_df160 2 none]
def wsX6_read_r4 : List Cond := [Cond.fieldLink RJ0 1053 "jdk/internal/util/Preconditions" "SIOOBE_FORMATTER" "Ljava/util/function/BiFunction;", Cond.methodLink RJ0 1059 yJ3_checkIndex_8e157, Cond.static yJ3_checkIndex_8e157, Cond.initialized RJ3, Cond.code yJ3_checkIndex_8e157 cJ3_checkIndex_8e157 3 (some .int), Cond.methodLink RJ0 498 yJ2_charAt_3b067, Cond.static yJ2_charAt_3b067, Cond.initialized RJ2, Cond.code yJ2_charAt_3b067 cJ2_charAt_3b067 2 (some .char), Cond.methodLink RJ2 67 yJ2_checkIndex_2214a, Cond.static yJ2_checkIndex_2214a, Cond.code yJ2_checkIndex_2214a cJ2_checkIndex_2214a 2 none, Cond.methodLink RJ2 48 yJ2_length_9d52b, Cond.static yJ2_length_9d52b, Cond.code yJ2_length_9d52b cJ2_length_9d52b 1 (some .int), Cond.methodLink RJ2 414 yJ0_checkIndex_df160, Cond.methodLink RJ2 71 yJ2_getChar_3b067, Cond.static yJ2_getChar_3b067, Cond.code yJ2_getChar_3b067 cJ2_getChar_3b067 2 (some .char), Cond.fieldLink RJ2 44 "java/lang/StringUTF16" "$assertionsDisabled" "Z", Cond.fieldLink RJ2 59 "java/lang/StringUTF16" "HI_BYTE_SHIFT" "I", Cond.fieldLink RJ2 63 "java/lang/StringUTF16" "LO_BYTE_SHIFT" "I", Cond.methodLink RX6 113 yX6_numberOf, Cond.instanceMethod yX6_numberOf]
def wsX6_read_r5 : List Cond := [Cond.selects RX6 yX6_numberOf yX6_numberOf, Cond.code yX6_numberOf cX6_numberOf 5 (some .int), Cond.methodLink RX6 116 yX6_signOf, Cond.static yX6_signOf, Cond.code yX6_signOf cX6_signOf 1 (some .int), Cond.methodLink RX6 100 yX6_addToken, Cond.instanceMethod yX6_addToken, Cond.selects RX6 yX6_addToken yX6_addToken, Cond.code yX6_addToken cX6_addToken 3 none, Cond.fieldLink RX6 11 "TestHall$TextReader" "tokens" "[I", Cond.fieldLink RX6 15 "TestHall$TextReader" "places" "[I", Cond.methodLink RX6 46 yX6_peek, Cond.instanceMethod yX6_peek, Cond.selects RX6 yX6_peek yX6_peek, Cond.code yX6_peek cX6_peek 1 (some .int), Cond.methodLink RX6 52 yX6_readLine, Cond.instanceMethod yX6_readLine, Cond.selects RX6 yX6_readLine yX6_readLine, Cond.code yX6_readLine cX6_readLine 2 (some .boolean), Cond.fieldLink RX6 62 "TestHall$Text" "lines" "I", Cond.methodLink RX6 65 yX6_take, Cond.instanceMethod yX6_take, Cond.selects RX6 yX6_take yX6_take, Cond.code yX6_take cX6_take 2 (some .boolean)]
def wsX6_read_r6 : List Cond := [Cond.methodLink RX6 69 yX6_readCondition, Cond.instanceMethod yX6_readCondition, Cond.selects RX6 yX6_readCondition yX6_readCondition, Cond.code yX6_readCondition cX6_readCondition 3 (some .boolean), Cond.methodLink RX6 76 yX6_readTest, Cond.instanceMethod yX6_readTest, Cond.selects RX6 yX6_readTest yX6_readTest, Cond.methodLink RX6 79 yX5_addCode, Cond.instanceMethod yX5_addCode, Cond.selects RX5 yX5_addCode yX5_addCode, Cond.code yX5_addCode cX5_addCode 2 none, Cond.fieldLink RX5 18 "TestHall$Text" "codes" "[I", Cond.code yX6_readPart cX6_readPart 3 (some .boolean), Cond.code yX6_readSum cX6_readSum 4 (some .boolean), Cond.methodLink RX6 85 yX6_readPart, Cond.instanceMethod yX6_readPart, Cond.selects RX6 yX6_readPart yX6_readPart, Cond.code yX6_readTest cX6_readTest 3 (some .boolean), Cond.methodLink RX6 82 yX6_readSum, Cond.instanceMethod yX6_readSum, Cond.selects RX6 yX6_readSum yX6_readSum, Cond.methodLink RX6 72 yX5_addLine, Cond.instanceMethod yX5_addLine, Cond.selects RX5 yX5_addLine yX5_addLine]
def wsX6_read_r7 : List Cond := [Cond.code yX5_addLine cX5_addLine 2 none, Cond.fieldLink RX5 9 "TestHall$Text" "firsts" "[I", Cond.fieldLink RX5 13 "TestHall$Text" "ends" "[I", Cond.methodLink RX6 56 yX6_placeOfNext, Cond.instanceMethod yX6_placeOfNext, Cond.selects RX6 yX6_placeOfNext yX6_placeOfNext, Cond.code yX6_placeOfNext cX6_placeOfNext 1 (some .int)]
def wsX6_read : List Cond := .code yX6_read cX6_read 4 (some .int) :: ((wsX6_read_r1 ++ (wsX6_read_r2 ++ (wsX6_read_r3 ++ (wsX6_read_r4 ++ (wsX6_read_r5 ++ (wsX6_read_r6 ++ wsX6_read_r7)))))) ++ wsX40 ++ wsX60 ++ wsX50)
def wsX8_init_r1 : List Cond := [Cond.methodLink RX8 3 objectInit, Cond.instanceMethod objectInit, Cond.code objectInit ⟨#[0xb1]⟩ 1 none, Cond.classLink RX8 9 RX0, Cond.instantiable RX0 9, Cond.initialized RX0, Cond.fieldLink RX8 12 "TestHall" "calendar" "LTestHall$Calendar;", Cond.classLink RX8 16 RX1, Cond.fieldLink RX8 18 "TestHall" "learners" "[LTestHall$Learner;", Cond.classLink RX8 22 RX2, Cond.instantiable RX2 3, Cond.initialized RX2, Cond.fieldLink RX8 25 "TestHall" "line" "LTestHall$Line;", Cond.arrayClass .int, Cond.fieldLink RX8 31 "TestHall" "facts" "[I", Cond.classLink RX8 35 RX4, Cond.instantiable RX4 2, Cond.initialized RX4, Cond.fieldLink RX8 38 "TestHall" "tape" "LTestHall$Tape;", Cond.classLink RX8 42 RX6, Cond.instantiable RX6 8, Cond.initialized RX6, Cond.fieldLink RX8 45 "TestHall" "reader" "LTestHall$TextReader;", Cond.classLink RX8 49 RX3]
def wsX8_init_r2 : List Cond := [Cond.instantiable RX3 18, Cond.initialized RX3, Cond.fieldLink RX8 52 "TestHall" "streets" "LTestHall$Streets;", Cond.classLink RX8 29 RX5, Cond.instantiable RX5 6, Cond.initialized RX5, Cond.fieldLink RX8 57 "TestHall" "order" "LTestHall$Text;", Cond.fieldLink RX8 61 "TestHall" "spare" "LTestHall$Text;", Cond.fieldLink RX8 64 "TestHall" "learnerCount" "I", Cond.methodLink RX8 11 yX0_init, Cond.instanceMethod yX0_init, Cond.code yX0_init cX0_init 1 none, Cond.methodLink RX0 3 objectInit, Cond.fieldLink RX0 9 "TestHall$Calendar" "towns" "[I", Cond.arrayClass .boolean, Cond.fieldLink RX0 15 "TestHall$Calendar" "shutDays" "[Z", Cond.fieldLink RX0 19 "TestHall$Calendar" "booked" "[I", Cond.fieldLink RX0 22 "TestHall$Calendar" "tests" "[I", Cond.fieldLink RX0 25 "TestHall$Calendar" "passes" "[I", Cond.methodLink RX0 28 yJ7_fill_53178, Cond.static yJ7_fill_53178, Cond.initialized RJ7, Cond.code yJ7_fill_53178 cJ7_fill_53178 4 none, Cond.instanceMethod yX2_init]
def wsX8_init_r3 : List Cond := [Cond.code yX2_init cX2_init 1 none, Cond.methodLink RX2 3 objectInit, Cond.fieldLink RX2 9 "TestHall$Line" "numbers" "[I", Cond.fieldLink RX2 15 "TestHall$Line" "ranks" "[I", Cond.instanceMethod yX4_init, Cond.code yX4_init cX4_init 1 none, Cond.methodLink RX4 1 objectInit, Cond.arrayClass .char, Cond.fieldLink RX4 9 "TestHall$Tape" "signs" "[C", Cond.instanceMethod yX6_init, Cond.code yX6_init cX6_init 1 none, Cond.methodLink RX6 3 objectInit, Cond.fieldLink RX6 11 "TestHall$TextReader" "tokens" "[I", Cond.fieldLink RX6 15 "TestHall$TextReader" "places" "[I", Cond.instanceMethod yX3_init, Cond.code yX3_init cX3_init 1 none, Cond.methodLink RX3 3 objectInit, Cond.fieldLink RX3 11 "TestHall$Streets" "ends" "[I", Cond.fieldLink RX3 15 "TestHall$Streets" "otherEnds" "[I", Cond.fieldLink RX3 18 "TestHall$Streets" "minutesOf" "[I", Cond.fieldLink RX3 21 "TestHall$Streets" "marksOf" "[I", Cond.fieldLink RX3 24 "TestHall$Streets" "closed" "[Z", Cond.classLink RX3 28 "[[I", Cond.fieldLink RX3 30 "TestHall$Streets" "streetsAt" "[[I"]
def wsX8_init_r4 : List Cond := [Cond.fieldLink RX3 33 "TestHall$Streets" "sizeAt" "[I", Cond.fieldLink RX3 36 "TestHall$Streets" "path" "[I", Cond.fieldLink RX3 39 "TestHall$Streets" "drawn" "[I", Cond.instanceMethod yX5_init, Cond.code yX5_init cX5_init 1 none, Cond.methodLink RX5 3 objectInit, Cond.fieldLink RX5 9 "TestHall$Text" "firsts" "[I", Cond.fieldLink RX5 13 "TestHall$Text" "ends" "[I", Cond.fieldLink RX5 18 "TestHall$Text" "codes" "[I", Cond.fieldLink RX5 21 "TestHall$Text" "stack" "[I"]
def wsX8_init : List Cond := .code yX8_init cX8_init 1 none :: ((wsX8_init_r1 ++ (wsX8_init_r2 ++ (wsX8_init_r3 ++ wsX8_init_r4))) ++ wsX00 ++ wsX80 ++ wsX20 ++ wsX40 ++ wsX60 ++ wsX30 ++ wsX50)
def wsX8_examiner : List Cond := .code yX8_examiner cX8_examiner 1 (some .int) :: ([.fieldLink RX8 12 "TestHall" "calendar" "LTestHall$Calendar;", .methodLink RX8 68 yX0_addExaminer, .instanceMethod yX0_addExaminer, .selects RX0 yX0_addExaminer yX0_addExaminer, .initialized RX0, .code yX0_addExaminer cX0_addExaminer 1 (some .int), .fieldLink RX0 34 "TestHall$Calendar" "examiners" "I"] ++ wsX80 ++ wsX00)
def wsX8_isStillThere_r1 : List Cond := [Cond.fieldLink RX8 143 "TestHall$Learner" "slot" "I", Cond.fieldLink RX8 12 "TestHall" "calendar" "LTestHall$Calendar;", Cond.fieldLink RX8 97 "TestHall$Learner" "town" "I", Cond.methodLink RX8 163 yX8_dayOf, Cond.static yX8_dayOf, Cond.initialized RX8, Cond.code yX8_dayOf cX8_dayOf 1 (some .int), Cond.methodLink RX8 176 yX8_examinerOf, Cond.static yX8_examinerOf, Cond.code yX8_examinerOf cX8_examinerOf 1 (some .int), Cond.methodLink RX8 260 yX8_hourOf, Cond.static yX8_hourOf, Cond.code yX8_hourOf cX8_hourOf 1 (some .int), Cond.methodLink RX8 201 yX0_hasHour, Cond.instanceMethod yX0_hasHour, Cond.selects RX0 yX0_hasHour yX0_hasHour, Cond.initialized RX0, Cond.code yX0_hasHour cX0_hasHour 5 (some .boolean), Cond.methodLink RX0 45 yX0_townOf, Cond.instanceMethod yX0_townOf, Cond.selects RX0 yX0_townOf yX0_townOf, Cond.code yX0_townOf cX0_townOf 4 (some .int), Cond.fieldLink RX0 34 "TestHall$Calendar" "examiners" "I", Cond.fieldLink RX0 9 "TestHall$Calendar" "towns" "[I"]
def wsX8_isStillThere_r2 : List Cond := [Cond.methodLink RX0 49 yX0_isTravel, Cond.static yX0_isTravel, Cond.code yX0_isTravel cX0_isTravel 2 (some .boolean), Cond.methodLink RX8 263 yX0_townOf]
def wsX8_isStillThere : List Cond := .code yX8_isStillThere cX8_isStillThere 4 (some .boolean) :: ((wsX8_isStillThere_r1 ++ wsX8_isStillThere_r2) ++ wsX10 ++ wsX80 ++ wsX00)
def wsX8_release : List Cond := .code yX8_release cX8_release 2 none :: ([.fieldLink RX8 12 "TestHall" "calendar" "LTestHall$Calendar;", .fieldLink RX8 143 "TestHall$Learner" "slot" "I", .fieldLink RX8 140 "TestHall$Learner" "state" "I", .methodLink RX8 253 yX0_setBooked, .instanceMethod yX0_setBooked, .selects RX0 yX0_setBooked yX0_setBooked, .initialized RX0, .code yX0_setBooked cX0_setBooked 3 none, .fieldLink RX0 19 "TestHall$Calendar" "booked" "[I", .methodLink RX0 53 yX0_isSlot, .instanceMethod yX0_isSlot, .selects RX0 yX0_isSlot yX0_isSlot, .code yX0_isSlot cX0_isSlot 2 (some .boolean)] ++ wsX80 ++ wsX10 ++ wsX00)
def wsX8_releaseMisplaced_r1 : List Cond := [Cond.fieldLink RX8 64 "TestHall" "learnerCount" "I", Cond.fieldLink RX8 18 "TestHall" "learners" "[LTestHall$Learner;", Cond.fieldLink RX8 140 "TestHall$Learner" "state" "I", Cond.fieldLink RX8 143 "TestHall$Learner" "slot" "I", Cond.methodLink RX8 176 yX8_examinerOf, Cond.static yX8_examinerOf, Cond.initialized RX8, Cond.code yX8_examinerOf cX8_examinerOf 1 (some .int), Cond.methodLink RX8 256 yX8_isStillThere, Cond.instanceMethod yX8_isStillThere, Cond.selects RX8 yX8_isStillThere yX8_isStillThere, Cond.code yX8_isStillThere cX8_isStillThere 4 (some .boolean), Cond.fieldLink RX8 12 "TestHall" "calendar" "LTestHall$Calendar;", Cond.fieldLink RX8 97 "TestHall$Learner" "town" "I", Cond.methodLink RX8 163 yX8_dayOf, Cond.static yX8_dayOf, Cond.code yX8_dayOf cX8_dayOf 1 (some .int), Cond.methodLink RX8 260 yX8_hourOf, Cond.static yX8_hourOf, Cond.code yX8_hourOf cX8_hourOf 1 (some .int), Cond.methodLink RX8 201 yX0_hasHour, Cond.instanceMethod yX0_hasHour, Cond.selects RX0 yX0_hasHour yX0_hasHour, Cond.initialized RX0]
def wsX8_releaseMisplaced_r2 : List Cond := [Cond.code yX0_hasHour cX0_hasHour 5 (some .boolean), Cond.methodLink RX0 45 yX0_townOf, Cond.instanceMethod yX0_townOf, Cond.selects RX0 yX0_townOf yX0_townOf, Cond.code yX0_townOf cX0_townOf 4 (some .int), Cond.fieldLink RX0 34 "TestHall$Calendar" "examiners" "I", Cond.fieldLink RX0 9 "TestHall$Calendar" "towns" "[I", Cond.methodLink RX0 49 yX0_isTravel, Cond.static yX0_isTravel, Cond.code yX0_isTravel cX0_isTravel 2 (some .boolean), Cond.methodLink RX8 263 yX0_townOf, Cond.methodLink RX8 146 yX8_release, Cond.instanceMethod yX8_release, Cond.selects RX8 yX8_release yX8_release, Cond.code yX8_release cX8_release 2 none, Cond.methodLink RX8 253 yX0_setBooked, Cond.instanceMethod yX0_setBooked, Cond.selects RX0 yX0_setBooked yX0_setBooked, Cond.code yX0_setBooked cX0_setBooked 3 none, Cond.fieldLink RX0 19 "TestHall$Calendar" "booked" "[I", Cond.methodLink RX0 53 yX0_isSlot, Cond.instanceMethod yX0_isSlot, Cond.selects RX0 yX0_isSlot yX0_isSlot, Cond.code yX0_isSlot cX0_isSlot 2 (some .boolean)]
def wsX8_releaseMisplaced : List Cond := .code yX8_releaseMisplaced cX8_releaseMisplaced 5 (some .int) :: ((wsX8_releaseMisplaced_r1 ++ wsX8_releaseMisplaced_r2) ++ wsX80 ++ wsX10 ++ wsX00)
def wsX8_place_r1 : List Cond := [Cond.fieldLink RX8 12 "TestHall" "calendar" "LTestHall$Calendar;", Cond.fieldLink RX8 80 "TestHall$Calendar" "now" "I", Cond.methodLink RX8 72 yX0_isExaminer, Cond.instanceMethod yX0_isExaminer, Cond.selects RX0 yX0_isExaminer yX0_isExaminer, Cond.initialized RX0, Cond.code yX0_isExaminer cX0_isExaminer 2 (some .boolean), Cond.fieldLink RX0 34 "TestHall$Calendar" "examiners" "I", Cond.methodLink RX8 76 yX8_isWithin, Cond.static yX8_isWithin, Cond.initialized RX8, Cond.code yX8_isWithin cX8_isWithin 3 (some .boolean), Cond.methodLink RX8 83 yX0_setTown, Cond.instanceMethod yX0_setTown, Cond.selects RX0 yX0_setTown yX0_setTown, Cond.code yX0_setTown cX0_setTown 4 none, Cond.fieldLink RX0 9 "TestHall$Calendar" "towns" "[I", Cond.methodLink RX0 38 yX0_isExaminer, Cond.static yX8_isDay, Cond.code yX8_isDay cX8_isDay 1 (some .boolean), Cond.methodLink RX8 87 yX8_releaseMisplaced, Cond.instanceMethod yX8_releaseMisplaced, Cond.selects RX8 yX8_releaseMisplaced yX8_releaseMisplaced, Cond.code yX8_releaseMisplaced cX8_releaseMisplaced 5 (some .int)]
def wsX8_place_r2 : List Cond := [Cond.fieldLink RX8 64 "TestHall" "learnerCount" "I", Cond.fieldLink RX8 18 "TestHall" "learners" "[LTestHall$Learner;", Cond.fieldLink RX8 140 "TestHall$Learner" "state" "I", Cond.fieldLink RX8 143 "TestHall$Learner" "slot" "I", Cond.methodLink RX8 176 yX8_examinerOf, Cond.static yX8_examinerOf, Cond.code yX8_examinerOf cX8_examinerOf 1 (some .int), Cond.methodLink RX8 256 yX8_isStillThere, Cond.instanceMethod yX8_isStillThere, Cond.selects RX8 yX8_isStillThere yX8_isStillThere, Cond.code yX8_isStillThere cX8_isStillThere 4 (some .boolean), Cond.fieldLink RX8 97 "TestHall$Learner" "town" "I", Cond.methodLink RX8 163 yX8_dayOf, Cond.static yX8_dayOf, Cond.code yX8_dayOf cX8_dayOf 1 (some .int), Cond.methodLink RX8 260 yX8_hourOf, Cond.static yX8_hourOf, Cond.code yX8_hourOf cX8_hourOf 1 (some .int), Cond.methodLink RX8 201 yX0_hasHour, Cond.instanceMethod yX0_hasHour, Cond.selects RX0 yX0_hasHour yX0_hasHour, Cond.code yX0_hasHour cX0_hasHour 5 (some .boolean), Cond.methodLink RX0 45 yX0_townOf, Cond.instanceMethod yX0_townOf]
def wsX8_place_r3 : List Cond := [Cond.selects RX0 yX0_townOf yX0_townOf, Cond.code yX0_townOf cX0_townOf 4 (some .int), Cond.methodLink RX0 49 yX0_isTravel, Cond.static yX0_isTravel, Cond.code yX0_isTravel cX0_isTravel 2 (some .boolean), Cond.methodLink RX8 263 yX0_townOf, Cond.methodLink RX8 146 yX8_release, Cond.instanceMethod yX8_release, Cond.selects RX8 yX8_release yX8_release, Cond.code yX8_release cX8_release 2 none, Cond.methodLink RX8 253 yX0_setBooked, Cond.instanceMethod yX0_setBooked, Cond.selects RX0 yX0_setBooked yX0_setBooked, Cond.code yX0_setBooked cX0_setBooked 3 none, Cond.fieldLink RX0 19 "TestHall$Calendar" "booked" "[I", Cond.methodLink RX0 53 yX0_isSlot, Cond.instanceMethod yX0_isSlot, Cond.selects RX0 yX0_isSlot yX0_isSlot, Cond.code yX0_isSlot cX0_isSlot 2 (some .boolean)]
def wsX8_place : List Cond := .code yX8_place cX8_place 7 (some .int) :: ((wsX8_place_r1 ++ (wsX8_place_r2 ++ wsX8_place_r3)) ++ wsX80 ++ wsX00 ++ wsX10)
def wsX8_learner_r1 : List Cond := [Cond.fieldLink RX8 64 "TestHall" "learnerCount" "I", Cond.classLink RX8 16 RX1, Cond.instantiable RX1 12, Cond.initialized RX1, Cond.fieldLink RX8 12 "TestHall" "calendar" "LTestHall$Calendar;", Cond.fieldLink RX8 80 "TestHall$Calendar" "now" "I", Cond.fieldLink RX8 97 "TestHall$Learner" "town" "I", Cond.fieldLink RX8 100 "TestHall$Learner" "sort" "I", Cond.fieldLink RX8 103 "TestHall$Learner" "from" "I", Cond.fieldLink RX8 106 "TestHall$Learner" "to" "I", Cond.fieldLink RX8 109 "TestHall$Learner" "wish" "I", Cond.fieldLink RX8 112 "TestHall$Learner" "sooner" "Z", Cond.fieldLink RX8 18 "TestHall" "learners" "[LTestHall$Learner;", Cond.fieldLink RX8 116 "TestHall$Learner" "number" "I", Cond.methodLink RX8 76 yX8_isWithin, Cond.static yX8_isWithin, Cond.initialized RX8, Cond.code yX8_isWithin cX8_isWithin 3 (some .boolean), Cond.methodLink RX8 91 yX8_isDay, Cond.static yX8_isDay, Cond.code yX8_isDay cX8_isDay 1 (some .boolean), Cond.methodLink RX8 94 yX1_init, Cond.instanceMethod yX1_init, Cond.code yX1_init cX1_init 3 none]
def wsX8_learner_r2 : List Cond := [Cond.methodLink RX1 3 objectInit, Cond.instanceMethod objectInit, Cond.code objectInit ⟨#[0xb1]⟩ 1 none, Cond.fieldLink RX1 9 "TestHall$Learner" "number" "I", Cond.fieldLink RX1 15 "TestHall$Learner" "came" "I", Cond.fieldLink RX1 18 "TestHall$Learner" "state" "I", Cond.fieldLink RX1 21 "TestHall$Learner" "slot" "I"]
def wsX8_learner : List Cond := .code yX8_learner cX8_learner 8 (some .int) :: ((wsX8_learner_r1 ++ wsX8_learner_r2) ++ wsX80 ++ wsX10 ++ wsX00)
def wsX8_feed : List Cond := .code yX8_feed cX8_feed 7 (some .int) :: ([.fieldLink RX8 38 "TestHall" "tape" "LTestHall$Tape;", .fieldLink RX8 123 "TestHall$Tape" "length" "I", .methodLink RX8 119 yX4_addEight, .instanceMethod yX4_addEight, .selects RX4 yX4_addEight yX4_addEight, .initialized RX4, .code yX4_addEight cX4_addEight 6 none, .fieldLink RX4 19 "TestHall$Tape" "length" "I", .fieldLink RX4 9 "TestHall$Tape" "signs" "[C", .static yX8_isWithin, .initialized RX8, .code yX8_isWithin cX8_isWithin 3 (some .boolean)] ++ wsX80 ++ wsX40)
def wsX8_text_r1 : List Cond := [Cond.fieldLink RX8 45 "TestHall" "reader" "LTestHall$TextReader;", Cond.fieldLink RX8 38 "TestHall" "tape" "LTestHall$Tape;", Cond.fieldLink RX8 61 "TestHall" "spare" "LTestHall$Text;", Cond.fieldLink RX8 123 "TestHall$Tape" "length" "I", Cond.fieldLink RX8 57 "TestHall" "order" "LTestHall$Text;", Cond.methodLink RX8 126 yX6_read, Cond.instanceMethod yX6_read, Cond.selects RX6 yX6_read yX6_read, Cond.initialized RX6, Cond.code yX6_read cX6_read 4 (some .int), Cond.fieldLink RX6 18 "TestHall$Tape" "signs" "[C", Cond.fieldLink RX6 22 "TestHall$TextReader" "signs" "[C", Cond.fieldLink RX6 23 "TestHall$Tape" "length" "I", Cond.fieldLink RX6 27 "TestHall$TextReader" "length" "I", Cond.fieldLink RX6 28 "TestHall$TextReader" "text" "LTestHall$Text;", Cond.fieldLink RX6 40 "TestHall$TextReader" "next" "I", Cond.fieldLink RX6 43 "TestHall$TextReader" "fault" "I", Cond.methodLink RX6 32 yX5_clear, Cond.instanceMethod yX5_clear, Cond.selects RX5 yX5_clear yX5_clear, Cond.initialized RX5, Cond.code yX5_clear cX5_clear 1 none, Cond.fieldLink RX5 24 "TestHall$Text" "lines" "I", Cond.fieldLink RX5 28 "TestHall$Text" "size" "I"]
def wsX8_text_r2 : List Cond := [Cond.methodLink RX6 37 yX6_scan, Cond.instanceMethod yX6_scan, Cond.selects RX6 yX6_scan yX6_scan, Cond.code yX6_scan cX6_scan 3 none, Cond.fieldLink RX6 59 "TestHall$TextReader" "size" "I", Cond.methodLink RX6 88 yX6_isBlank, Cond.static yX6_isBlank, Cond.code yX6_isBlank cX6_isBlank 1 (some .boolean), Cond.methodLink RX6 92 yX6_endOf, Cond.instanceMethod yX6_endOf, Cond.selects RX6 yX6_endOf yX6_endOf, Cond.code yX6_endOf cX6_endOf 5 (some .int), Cond.methodLink RX6 104 yX6_isLetter, Cond.static yX6_isLetter, Cond.code yX6_isLetter cX6_isLetter 1 (some .boolean), Cond.methodLink RX6 107 yX6_isDigit, Cond.static yX6_isDigit, Cond.code yX6_isDigit cX6_isDigit 1 (some .boolean), Cond.methodLink RX6 96 yX6_tokenOf, Cond.instanceMethod yX6_tokenOf, Cond.selects RX6 yX6_tokenOf yX6_tokenOf, Cond.code yX6_tokenOf cX6_tokenOf 3 (some .int), Cond.methodLink RX6 110 yX6_wordOf, Cond.instanceMethod yX6_wordOf]
def wsX8_text_r3 : List Cond := [Cond.selects RX6 yX6_wordOf yX6_wordOf, Cond.code yX6_wordOf cX6_wordOf 3 (some .int), Cond.methodLink RX6 122 yX6_isSpelt, Cond.instanceMethod yX6_isSpelt, Cond.selects RX6 yX6_isSpelt yX6_isSpelt, Cond.code yX6_isSpelt cX6_isSpelt 5 (some .boolean), Cond.methodLink RX6 142 yJ0_length_8abf5, Cond.instanceMethod yJ0_length_8abf5, Cond.selects RJ0 yJ0_length_8abf5 yJ0_length_8abf5, Cond.initialized RJ0, Cond.code yJ0_length_8abf5 cJ0_length_8abf5 1 (some .int), Cond.fieldLink RJ0 9 "java/lang/String" "value" "[B", Cond.methodLink RJ0 335 yJ0_coder_7d493, Cond.instanceMethod yJ0_coder_7d493, Cond.selects RJ0 yJ0_coder_7d493 yJ0_coder_7d493, Cond.code yJ0_coder_7d493 cJ0_coder_7d493 1 (some .byte), Cond.fieldLink RJ0 38 "java/lang/String" "COMPACT_STRINGS" "Z", Cond.fieldLink RJ0 15 "java/lang/String" "coder" "B", Cond.methodLink RX6 146 yJ0_charAt_5068e, Cond.instanceMethod yJ0_charAt_5068e, Cond.selects RJ0 yJ0_charAt_5068e yJ0_charAt_5068e, Cond.code yJ0_charAt_5068e cJ0_charAt_5068e 2 (some .char), Cond.methodLink RJ0 492 yJ0_isLatin1_aae02, Cond.instanceMethod yJ0_isLatin1_aae02]
def wsX8_text_r4 : List Cond := [Cond.selects RJ0 yJ0_isLatin1_aae02 yJ0_isLatin1_aae02, Cond.code yJ0_isLatin1_aae02 cJ0_isLatin1_aae02 1 (some .boolean), Cond.methodLink RJ0 495 yJ1_charAt_3b067, Cond.static yJ1_charAt_3b067, Cond.initialized RJ1, Cond.code yJ1_charAt_3b067 cJ1_charAt_3b067 2 (some .char), Cond.methodLink RJ1 9 yJ0_checkIndex_df160, Cond.static yJ0_checkIndex_df160, Cond.code yJ0_checkIndex_df160 cJ0_checkIndex_df160 2 none, Cond.fieldLink RJ0 1053 "jdk/internal/util/Preconditions" "SIOOBE_FORMATTER" "Ljava/util/function/BiFunction;", Cond.methodLink RJ0 1059 yJ3_checkIndex_8e157, Cond.static yJ3_checkIndex_8e157, Cond.initialized RJ3, Cond.code yJ3_checkIndex_8e157 cJ3_checkIndex_8e157 3 (some .int), Cond.methodLink RJ0 498 yJ2_charAt_3b067, Cond.static yJ2_charAt_3b067, Cond.initialized RJ2, Cond.code yJ2_charAt_3b067 cJ2_charAt_3b067 2 (some .char), Cond.methodLink RJ2 67 yJ2_checkIndex_2214a, Cond.static yJ2_checkIndex_2214a, Cond.code yJ2_checkIndex_2214a cJ2_checkIndex_2214a 2 none, Cond.methodLink RJ2 48 yJ2_length_9d52b, Cond.static yJ2_length_9d52b, Cond.code yJ2_length_9d52b cJ2_length_9d52b 1 (some .int)]
def wsX8_text_r5 : List Cond := [Cond.methodLink RJ2 414 yJ0_checkIndex_df160, Cond.methodLink RJ2 71 yJ2_getChar_3b067, Cond.static yJ2_getChar_3b067, Cond.code yJ2_getChar_3b067 cJ2_getChar_3b067 2 (some .char), Cond.fieldLink RJ2 44 "java/lang/StringUTF16" "$assertionsDisabled" "Z", Cond.fieldLink RJ2 59 "java/lang/StringUTF16" "HI_BYTE_SHIFT" "I", Cond.fieldLink RJ2 63 "java/lang/StringUTF16" "LO_BYTE_SHIFT" "I", Cond.methodLink RX6 113 yX6_numberOf, Cond.instanceMethod yX6_numberOf, Cond.selects RX6 yX6_numberOf yX6_numberOf, Cond.code yX6_numberOf cX6_numberOf 5 (some .int), Cond.methodLink RX6 116 yX6_signOf, Cond.static yX6_signOf, Cond.code yX6_signOf cX6_signOf 1 (some .int), Cond.methodLink RX6 100 yX6_addToken, Cond.instanceMethod yX6_addToken, Cond.selects RX6 yX6_addToken yX6_addToken, Cond.code yX6_addToken cX6_addToken 3 none, Cond.fieldLink RX6 11 "TestHall$TextReader" "tokens" "[I", Cond.fieldLink RX6 15 "TestHall$TextReader" "places" "[I", Cond.methodLink RX6 46 yX6_peek, Cond.instanceMethod yX6_peek, Cond.selects RX6 yX6_peek yX6_peek, Cond.code yX6_peek cX6_peek 1 (some .int)]
def wsX8_text_r6 : List Cond := [Cond.methodLink RX6 52 yX6_readLine, Cond.instanceMethod yX6_readLine, Cond.selects RX6 yX6_readLine yX6_readLine, Cond.code yX6_readLine cX6_readLine 2 (some .boolean), Cond.fieldLink RX6 62 "TestHall$Text" "lines" "I", Cond.methodLink RX6 65 yX6_take, Cond.instanceMethod yX6_take, Cond.selects RX6 yX6_take yX6_take, Cond.code yX6_take cX6_take 2 (some .boolean), Cond.methodLink RX6 69 yX6_readCondition, Cond.instanceMethod yX6_readCondition, Cond.selects RX6 yX6_readCondition yX6_readCondition, Cond.code yX6_readCondition cX6_readCondition 3 (some .boolean), Cond.methodLink RX6 76 yX6_readTest, Cond.instanceMethod yX6_readTest, Cond.selects RX6 yX6_readTest yX6_readTest, Cond.methodLink RX6 79 yX5_addCode, Cond.instanceMethod yX5_addCode, Cond.selects RX5 yX5_addCode yX5_addCode, Cond.code yX5_addCode cX5_addCode 2 none, Cond.fieldLink RX5 18 "TestHall$Text" "codes" "[I", Cond.code yX6_readPart cX6_readPart 3 (some .boolean), Cond.code yX6_readSum cX6_readSum 4 (some .boolean), Cond.methodLink RX6 85 yX6_readPart]
def wsX8_text_r7 : List Cond := [Cond.instanceMethod yX6_readPart, Cond.selects RX6 yX6_readPart yX6_readPart, Cond.code yX6_readTest cX6_readTest 3 (some .boolean), Cond.methodLink RX6 82 yX6_readSum, Cond.instanceMethod yX6_readSum, Cond.selects RX6 yX6_readSum yX6_readSum, Cond.methodLink RX6 72 yX5_addLine, Cond.instanceMethod yX5_addLine, Cond.selects RX5 yX5_addLine yX5_addLine, Cond.code yX5_addLine cX5_addLine 2 none, Cond.fieldLink RX5 9 "TestHall$Text" "firsts" "[I", Cond.fieldLink RX5 13 "TestHall$Text" "ends" "[I", Cond.methodLink RX6 56 yX6_placeOfNext, Cond.instanceMethod yX6_placeOfNext, Cond.selects RX6 yX6_placeOfNext yX6_placeOfNext, Cond.code yX6_placeOfNext cX6_placeOfNext 1 (some .int)]
def wsX8_text : List Cond := .code yX8_text cX8_text 3 (some .int) :: ((wsX8_text_r1 ++ (wsX8_text_r2 ++ (wsX8_text_r3 ++ (wsX8_text_r4 ++ (wsX8_text_r5 ++ (wsX8_text_r6 ++ wsX8_text_r7)))))) ++ wsX80 ++ wsX40 ++ wsX60 ++ wsX50)
def wsX8_rankOf_r1 : List Cond := [Cond.fieldLink RX8 31 "TestHall" "facts" "[I", Cond.fieldLink RX8 100 "TestHall$Learner" "sort" "I", Cond.fieldLink RX8 97 "TestHall$Learner" "town" "I", Cond.fieldLink RX8 12 "TestHall" "calendar" "LTestHall$Calendar;", Cond.fieldLink RX8 80 "TestHall$Calendar" "now" "I", Cond.fieldLink RX8 266 "TestHall$Learner" "came" "I", Cond.fieldLink RX8 183 "TestHall$Learner" "tries" "I", Cond.fieldLink RX8 106 "TestHall$Learner" "to" "I", Cond.fieldLink RX8 57 "TestHall" "order" "LTestHall$Text;", Cond.methodLink RX8 269 yX5_rankBy, Cond.instanceMethod yX5_rankBy, Cond.selects RX5 yX5_rankBy yX5_rankBy, Cond.initialized RX5, Cond.code yX5_rankBy cX5_rankBy 4 (some .int), Cond.fieldLink RX5 24 "TestHall$Text" "lines" "I", Cond.fieldLink RX5 13 "TestHall$Text" "ends" "[I", Cond.fieldLink RX5 9 "TestHall$Text" "firsts" "[I", Cond.methodLink RX5 31 yX5_valueOf, Cond.instanceMethod yX5_valueOf, Cond.selects RX5 yX5_valueOf yX5_valueOf, Cond.code yX5_valueOf cX5_valueOf 7 (some .int), Cond.fieldLink RX5 18 "TestHall$Text" "codes" "[I", Cond.fieldLink RX5 21 "TestHall$Text" "stack" "[I", Cond.methodLink RX5 37 yX5_joined]
def wsX8_rankOf_r2 : List Cond := [Cond.static yX5_joined, Cond.code yX5_joined cX5_joined 3 (some .int)]
def wsX8_rankOf : List Cond := .code yX8_rankOf cX8_rankOf 2 (some .int) :: ((wsX8_rankOf_r1 ++ wsX8_rankOf_r2) ++ wsX80 ++ wsX10 ++ wsX00 ++ wsX50)
def wsX8_lineUpWaiting_r1 : List Cond := [Cond.fieldLink RX8 25 "TestHall" "line" "LTestHall$Line;", Cond.fieldLink RX8 64 "TestHall" "learnerCount" "I", Cond.fieldLink RX8 18 "TestHall" "learners" "[LTestHall$Learner;", Cond.fieldLink RX8 140 "TestHall$Learner" "state" "I", Cond.methodLink RX8 160 yX2_clear, Cond.instanceMethod yX2_clear, Cond.selects RX2 yX2_clear yX2_clear, Cond.initialized RX2, Cond.code yX2_clear cX2_clear 1 none, Cond.fieldLink RX2 18 "TestHall$Line" "size" "I", Cond.methodLink RX8 166 yX8_rankOf, Cond.instanceMethod yX8_rankOf, Cond.selects RX8 yX8_rankOf yX8_rankOf, Cond.initialized RX8, Cond.code yX8_rankOf cX8_rankOf 2 (some .int), Cond.fieldLink RX8 31 "TestHall" "facts" "[I", Cond.fieldLink RX8 100 "TestHall$Learner" "sort" "I", Cond.fieldLink RX8 97 "TestHall$Learner" "town" "I", Cond.fieldLink RX8 12 "TestHall" "calendar" "LTestHall$Calendar;", Cond.fieldLink RX8 80 "TestHall$Calendar" "now" "I", Cond.fieldLink RX8 266 "TestHall$Learner" "came" "I", Cond.fieldLink RX8 183 "TestHall$Learner" "tries" "I", Cond.fieldLink RX8 106 "TestHall$Learner" "to" "I", Cond.fieldLink RX8 57 "TestHall" "order" "LTestHall$Text;"]
def wsX8_lineUpWaiting_r2 : List Cond := [Cond.methodLink RX8 269 yX5_rankBy, Cond.instanceMethod yX5_rankBy, Cond.selects RX5 yX5_rankBy yX5_rankBy, Cond.initialized RX5, Cond.code yX5_rankBy cX5_rankBy 4 (some .int), Cond.fieldLink RX5 24 "TestHall$Text" "lines" "I", Cond.fieldLink RX5 13 "TestHall$Text" "ends" "[I", Cond.fieldLink RX5 9 "TestHall$Text" "firsts" "[I", Cond.methodLink RX5 31 yX5_valueOf, Cond.instanceMethod yX5_valueOf, Cond.selects RX5 yX5_valueOf yX5_valueOf, Cond.code yX5_valueOf cX5_valueOf 7 (some .int), Cond.fieldLink RX5 18 "TestHall$Text" "codes" "[I", Cond.fieldLink RX5 21 "TestHall$Text" "stack" "[I", Cond.methodLink RX5 37 yX5_joined, Cond.static yX5_joined, Cond.code yX5_joined cX5_joined 3 (some .int), Cond.methodLink RX8 170 yX2_add, Cond.instanceMethod yX2_add, Cond.selects RX2 yX2_add yX2_add, Cond.code yX2_add cX2_add 4 none, Cond.fieldLink RX2 15 "TestHall$Line" "ranks" "[I", Cond.fieldLink RX2 9 "TestHall$Line" "numbers" "[I"]
def wsX8_lineUpWaiting : List Cond := .code yX8_lineUpWaiting cX8_lineUpWaiting 2 none :: ((wsX8_lineUpWaiting_r1 ++ wsX8_lineUpWaiting_r2) ++ wsX80 ++ wsX10 ++ wsX20 ++ wsX00 ++ wsX50)
def wsX8_book : List Cond := .code yX8_book cX8_book 3 none :: ([.fieldLink RX8 12 "TestHall" "calendar" "LTestHall$Calendar;", .fieldLink RX8 116 "TestHall$Learner" "number" "I", .fieldLink RX8 143 "TestHall$Learner" "slot" "I", .fieldLink RX8 140 "TestHall$Learner" "state" "I", .methodLink RX8 253 yX0_setBooked, .instanceMethod yX0_setBooked, .selects RX0 yX0_setBooked yX0_setBooked, .initialized RX0, .code yX0_setBooked cX0_setBooked 3 none, .fieldLink RX0 19 "TestHall$Calendar" "booked" "[I", .methodLink RX0 53 yX0_isSlot, .instanceMethod yX0_isSlot, .selects RX0 yX0_isSlot yX0_isSlot, .code yX0_isSlot cX0_isSlot 2 (some .boolean)] ++ wsX80 ++ wsX10 ++ wsX00)
def wsX8_dealLine_r1 : List Cond := [Cond.fieldLink RX8 25 "TestHall" "line" "LTestHall$Line;", Cond.fieldLink RX8 173 "TestHall$Line" "size" "I", Cond.fieldLink RX8 18 "TestHall" "learners" "[LTestHall$Learner;", Cond.fieldLink RX8 276 "TestHall$Line" "numbers" "[I", Cond.fieldLink RX8 12 "TestHall" "calendar" "LTestHall$Calendar;", Cond.fieldLink RX8 97 "TestHall$Learner" "town" "I", Cond.fieldLink RX8 109 "TestHall$Learner" "wish" "I", Cond.fieldLink RX8 103 "TestHall$Learner" "from" "I", Cond.methodLink RX8 279 Lib.Math.max.name, Cond.static Lib.Math.max.name, Cond.initialized "java/lang/Math", Cond.code Lib.Math.max.name Lib.Math.max.code 2 (some .int), Cond.fieldLink RX8 106 "TestHall$Learner" "to" "I", Cond.methodLink RX8 284 yX0_leastFree, Cond.instanceMethod yX0_leastFree, Cond.selects RX0 yX0_leastFree yX0_leastFree, Cond.initialized RX0, Cond.code yX0_leastFree cX0_leastFree 6 (some .int), Cond.fieldLink RX0 60 "TestHall$Calendar" "now" "I", Cond.methodLink RX0 73 Lib.Math.max.name, Cond.methodLink RX0 78 yX0_leastFreeOn, Cond.instanceMethod yX0_leastFreeOn, Cond.selects RX0 yX0_leastFreeOn yX0_leastFreeOn, Cond.code yX0_leastFreeOn cX0_leastFreeOn 6 (some .int)]
def wsX8_dealLine_r2 : List Cond := [Cond.fieldLink RX0 34 "TestHall$Calendar" "examiners" "I", Cond.methodLink RX0 45 yX0_townOf, Cond.instanceMethod yX0_townOf, Cond.selects RX0 yX0_townOf yX0_townOf, Cond.code yX0_townOf cX0_townOf 4 (some .int), Cond.fieldLink RX0 9 "TestHall$Calendar" "towns" "[I", Cond.methodLink RX0 81 yX0_firstFreeOf, Cond.instanceMethod yX0_firstFreeOf, Cond.selects RX0 yX0_firstFreeOf yX0_firstFreeOf, Cond.code yX0_firstFreeOf cX0_firstFreeOf 4 (some .int), Cond.static yX8_slotOf, Cond.initialized RX8, Cond.code yX8_slotOf cX8_slotOf 3 (some .int), Cond.methodLink RX0 88 yX0_isFree, Cond.instanceMethod yX0_isFree, Cond.selects RX0 yX0_isFree yX0_isFree, Cond.code yX0_isFree cX0_isFree 3 (some .boolean), Cond.fieldLink RX0 19 "TestHall$Calendar" "booked" "[I", Cond.fieldLink RX0 15 "TestHall$Calendar" "shutDays" "[Z", Cond.methodLink RX0 53 yX0_isSlot, Cond.instanceMethod yX0_isSlot, Cond.selects RX0 yX0_isSlot yX0_isSlot, Cond.code yX0_isSlot cX0_isSlot 2 (some .boolean), Cond.static yX8_dayOf]
def wsX8_dealLine_r3 : List Cond := [Cond.code yX8_dayOf cX8_dayOf 1 (some .int), Cond.static yX8_hourOf, Cond.code yX8_hourOf cX8_hourOf 1 (some .int), Cond.static yX8_examinerOf, Cond.code yX8_examinerOf cX8_examinerOf 1 (some .int), Cond.methodLink RX0 69 yX0_hasHour, Cond.instanceMethod yX0_hasHour, Cond.selects RX0 yX0_hasHour yX0_hasHour, Cond.code yX0_hasHour cX0_hasHour 5 (some .boolean), Cond.methodLink RX0 49 yX0_isTravel, Cond.static yX0_isTravel, Cond.code yX0_isTravel cX0_isTravel 2 (some .boolean), Cond.methodLink RX8 287 yX8_book, Cond.instanceMethod yX8_book, Cond.selects RX8 yX8_book yX8_book, Cond.code yX8_book cX8_book 3 none, Cond.fieldLink RX8 116 "TestHall$Learner" "number" "I", Cond.fieldLink RX8 143 "TestHall$Learner" "slot" "I", Cond.fieldLink RX8 140 "TestHall$Learner" "state" "I", Cond.methodLink RX8 253 yX0_setBooked, Cond.instanceMethod yX0_setBooked, Cond.selects RX0 yX0_setBooked yX0_setBooked, Cond.code yX0_setBooked cX0_setBooked 3 none]
def wsX8_dealLine : List Cond := .code yX8_dealLine cX8_dealLine 5 (some .int) :: ((wsX8_dealLine_r1 ++ (wsX8_dealLine_r2 ++ wsX8_dealLine_r3)) ++ wsX80 ++ wsX20 ++ wsX10 ++ wsX00)
def wsX8_deal_r1 : List Cond := [Cond.methodLink RX8 130 yX8_lineUpWaiting, Cond.instanceMethod yX8_lineUpWaiting, Cond.selects RX8 yX8_lineUpWaiting yX8_lineUpWaiting, Cond.initialized RX8, Cond.code yX8_lineUpWaiting cX8_lineUpWaiting 2 none, Cond.fieldLink RX8 25 "TestHall" "line" "LTestHall$Line;", Cond.fieldLink RX8 64 "TestHall" "learnerCount" "I", Cond.fieldLink RX8 18 "TestHall" "learners" "[LTestHall$Learner;", Cond.fieldLink RX8 140 "TestHall$Learner" "state" "I", Cond.methodLink RX8 160 yX2_clear, Cond.instanceMethod yX2_clear, Cond.selects RX2 yX2_clear yX2_clear, Cond.initialized RX2, Cond.code yX2_clear cX2_clear 1 none, Cond.fieldLink RX2 18 "TestHall$Line" "size" "I", Cond.methodLink RX8 166 yX8_rankOf, Cond.instanceMethod yX8_rankOf, Cond.selects RX8 yX8_rankOf yX8_rankOf, Cond.code yX8_rankOf cX8_rankOf 2 (some .int), Cond.fieldLink RX8 31 "TestHall" "facts" "[I", Cond.fieldLink RX8 100 "TestHall$Learner" "sort" "I", Cond.fieldLink RX8 97 "TestHall$Learner" "town" "I", Cond.fieldLink RX8 12 "TestHall" "calendar" "LTestHall$Calendar;", Cond.fieldLink RX8 80 "TestHall$Calendar" "now" "I"]
def wsX8_deal_r2 : List Cond := [Cond.fieldLink RX8 266 "TestHall$Learner" "came" "I", Cond.fieldLink RX8 183 "TestHall$Learner" "tries" "I", Cond.fieldLink RX8 106 "TestHall$Learner" "to" "I", Cond.fieldLink RX8 57 "TestHall" "order" "LTestHall$Text;", Cond.methodLink RX8 269 yX5_rankBy, Cond.instanceMethod yX5_rankBy, Cond.selects RX5 yX5_rankBy yX5_rankBy, Cond.initialized RX5, Cond.code yX5_rankBy cX5_rankBy 4 (some .int), Cond.fieldLink RX5 24 "TestHall$Text" "lines" "I", Cond.fieldLink RX5 13 "TestHall$Text" "ends" "[I", Cond.fieldLink RX5 9 "TestHall$Text" "firsts" "[I", Cond.methodLink RX5 31 yX5_valueOf, Cond.instanceMethod yX5_valueOf, Cond.selects RX5 yX5_valueOf yX5_valueOf, Cond.code yX5_valueOf cX5_valueOf 7 (some .int), Cond.fieldLink RX5 18 "TestHall$Text" "codes" "[I", Cond.fieldLink RX5 21 "TestHall$Text" "stack" "[I", Cond.methodLink RX5 37 yX5_joined, Cond.static yX5_joined, Cond.code yX5_joined cX5_joined 3 (some .int), Cond.methodLink RX8 170 yX2_add, Cond.instanceMethod yX2_add, Cond.selects RX2 yX2_add yX2_add]
def wsX8_deal_r3 : List Cond := [Cond.code yX2_add cX2_add 4 none, Cond.fieldLink RX2 15 "TestHall$Line" "ranks" "[I", Cond.fieldLink RX2 9 "TestHall$Line" "numbers" "[I", Cond.methodLink RX8 133 yX8_dealLine, Cond.instanceMethod yX8_dealLine, Cond.selects RX8 yX8_dealLine yX8_dealLine, Cond.code yX8_dealLine cX8_dealLine 5 (some .int), Cond.fieldLink RX8 173 "TestHall$Line" "size" "I", Cond.fieldLink RX8 276 "TestHall$Line" "numbers" "[I", Cond.fieldLink RX8 109 "TestHall$Learner" "wish" "I", Cond.fieldLink RX8 103 "TestHall$Learner" "from" "I", Cond.methodLink RX8 279 Lib.Math.max.name, Cond.static Lib.Math.max.name, Cond.initialized "java/lang/Math", Cond.code Lib.Math.max.name Lib.Math.max.code 2 (some .int), Cond.methodLink RX8 284 yX0_leastFree, Cond.instanceMethod yX0_leastFree, Cond.selects RX0 yX0_leastFree yX0_leastFree, Cond.initialized RX0, Cond.code yX0_leastFree cX0_leastFree 6 (some .int), Cond.fieldLink RX0 60 "TestHall$Calendar" "now" "I", Cond.methodLink RX0 73 Lib.Math.max.name, Cond.methodLink RX0 78 yX0_leastFreeOn, Cond.instanceMethod yX0_leastFreeOn]
def wsX8_deal_r4 : List Cond := [Cond.selects RX0 yX0_leastFreeOn yX0_leastFreeOn, Cond.code yX0_leastFreeOn cX0_leastFreeOn 6 (some .int), Cond.fieldLink RX0 34 "TestHall$Calendar" "examiners" "I", Cond.methodLink RX0 45 yX0_townOf, Cond.instanceMethod yX0_townOf, Cond.selects RX0 yX0_townOf yX0_townOf, Cond.code yX0_townOf cX0_townOf 4 (some .int), Cond.fieldLink RX0 9 "TestHall$Calendar" "towns" "[I", Cond.methodLink RX0 81 yX0_firstFreeOf, Cond.instanceMethod yX0_firstFreeOf, Cond.selects RX0 yX0_firstFreeOf yX0_firstFreeOf, Cond.code yX0_firstFreeOf cX0_firstFreeOf 4 (some .int), Cond.static yX8_slotOf, Cond.code yX8_slotOf cX8_slotOf 3 (some .int), Cond.methodLink RX0 88 yX0_isFree, Cond.instanceMethod yX0_isFree, Cond.selects RX0 yX0_isFree yX0_isFree, Cond.code yX0_isFree cX0_isFree 3 (some .boolean), Cond.fieldLink RX0 19 "TestHall$Calendar" "booked" "[I", Cond.fieldLink RX0 15 "TestHall$Calendar" "shutDays" "[Z", Cond.methodLink RX0 53 yX0_isSlot, Cond.instanceMethod yX0_isSlot, Cond.selects RX0 yX0_isSlot yX0_isSlot, Cond.code yX0_isSlot cX0_isSlot 2 (some .boolean)]
def wsX8_deal_r5 : List Cond := [Cond.static yX8_dayOf, Cond.code yX8_dayOf cX8_dayOf 1 (some .int), Cond.static yX8_hourOf, Cond.code yX8_hourOf cX8_hourOf 1 (some .int), Cond.static yX8_examinerOf, Cond.code yX8_examinerOf cX8_examinerOf 1 (some .int), Cond.methodLink RX0 69 yX0_hasHour, Cond.instanceMethod yX0_hasHour, Cond.selects RX0 yX0_hasHour yX0_hasHour, Cond.code yX0_hasHour cX0_hasHour 5 (some .boolean), Cond.methodLink RX0 49 yX0_isTravel, Cond.static yX0_isTravel, Cond.code yX0_isTravel cX0_isTravel 2 (some .boolean), Cond.methodLink RX8 287 yX8_book, Cond.instanceMethod yX8_book, Cond.selects RX8 yX8_book yX8_book, Cond.code yX8_book cX8_book 3 none, Cond.fieldLink RX8 116 "TestHall$Learner" "number" "I", Cond.fieldLink RX8 143 "TestHall$Learner" "slot" "I", Cond.methodLink RX8 253 yX0_setBooked, Cond.instanceMethod yX0_setBooked, Cond.selects RX0 yX0_setBooked yX0_setBooked, Cond.code yX0_setBooked cX0_setBooked 3 none]
def wsX8_deal : List Cond := .code yX8_deal cX8_deal 1 (some .int) :: ((wsX8_deal_r1 ++ (wsX8_deal_r2 ++ (wsX8_deal_r3 ++ (wsX8_deal_r4 ++ wsX8_deal_r5)))) ++ wsX80 ++ wsX10 ++ wsX20 ++ wsX00 ++ wsX50)
def wsX8_find : List Cond := .code yX8_find cX8_find 2 (some (.object "TestHall$Learner")) :: ([.fieldLink RX8 64 "TestHall" "learnerCount" "I", .fieldLink RX8 18 "TestHall" "learners" "[LTestHall$Learner;", .methodLink RX8 76 yX8_isWithin, .static yX8_isWithin, .initialized RX8, .code yX8_isWithin cX8_isWithin 3 (some .boolean)] ++ wsX80)
def wsX8_lineUpSooner_r1 : List Cond := [Cond.fieldLink RX8 25 "TestHall" "line" "LTestHall$Line;", Cond.fieldLink RX8 64 "TestHall" "learnerCount" "I", Cond.fieldLink RX8 18 "TestHall" "learners" "[LTestHall$Learner;", Cond.fieldLink RX8 140 "TestHall$Learner" "state" "I", Cond.fieldLink RX8 112 "TestHall$Learner" "sooner" "Z", Cond.methodLink RX8 160 yX2_clear, Cond.instanceMethod yX2_clear, Cond.selects RX2 yX2_clear yX2_clear, Cond.initialized RX2, Cond.code yX2_clear cX2_clear 1 none, Cond.fieldLink RX2 18 "TestHall$Line" "size" "I", Cond.methodLink RX8 166 yX8_rankOf, Cond.instanceMethod yX8_rankOf, Cond.selects RX8 yX8_rankOf yX8_rankOf, Cond.initialized RX8, Cond.code yX8_rankOf cX8_rankOf 2 (some .int), Cond.fieldLink RX8 31 "TestHall" "facts" "[I", Cond.fieldLink RX8 100 "TestHall$Learner" "sort" "I", Cond.fieldLink RX8 97 "TestHall$Learner" "town" "I", Cond.fieldLink RX8 12 "TestHall" "calendar" "LTestHall$Calendar;", Cond.fieldLink RX8 80 "TestHall$Calendar" "now" "I", Cond.fieldLink RX8 266 "TestHall$Learner" "came" "I", Cond.fieldLink RX8 183 "TestHall$Learner" "tries" "I", Cond.fieldLink RX8 106 "TestHall$Learner" "to" "I"]
def wsX8_lineUpSooner_r2 : List Cond := [Cond.fieldLink RX8 57 "TestHall" "order" "LTestHall$Text;", Cond.methodLink RX8 269 yX5_rankBy, Cond.instanceMethod yX5_rankBy, Cond.selects RX5 yX5_rankBy yX5_rankBy, Cond.initialized RX5, Cond.code yX5_rankBy cX5_rankBy 4 (some .int), Cond.fieldLink RX5 24 "TestHall$Text" "lines" "I", Cond.fieldLink RX5 13 "TestHall$Text" "ends" "[I", Cond.fieldLink RX5 9 "TestHall$Text" "firsts" "[I", Cond.methodLink RX5 31 yX5_valueOf, Cond.instanceMethod yX5_valueOf, Cond.selects RX5 yX5_valueOf yX5_valueOf, Cond.code yX5_valueOf cX5_valueOf 7 (some .int), Cond.fieldLink RX5 18 "TestHall$Text" "codes" "[I", Cond.fieldLink RX5 21 "TestHall$Text" "stack" "[I", Cond.methodLink RX5 37 yX5_joined, Cond.static yX5_joined, Cond.code yX5_joined cX5_joined 3 (some .int), Cond.methodLink RX8 170 yX2_add, Cond.instanceMethod yX2_add, Cond.selects RX2 yX2_add yX2_add, Cond.code yX2_add cX2_add 4 none, Cond.fieldLink RX2 15 "TestHall$Line" "ranks" "[I", Cond.fieldLink RX2 9 "TestHall$Line" "numbers" "[I"]
def wsX8_lineUpSooner : List Cond := .code yX8_lineUpSooner cX8_lineUpSooner 2 none :: ((wsX8_lineUpSooner_r1 ++ wsX8_lineUpSooner_r2) ++ wsX80 ++ wsX10 ++ wsX20 ++ wsX00 ++ wsX50)
def wsX8_isSuiting : List Cond := .code yX8_isSuiting cX8_isSuiting 5 (some .boolean) :: ([.fieldLink RX8 109 "TestHall$Learner" "wish" "I", .fieldLink RX8 103 "TestHall$Learner" "from" "I", .fieldLink RX8 106 "TestHall$Learner" "to" "I", .fieldLink RX8 12 "TestHall" "calendar" "LTestHall$Calendar;", .fieldLink RX8 97 "TestHall$Learner" "town" "I", .methodLink RX8 163 yX8_dayOf, .static yX8_dayOf, .initialized RX8, .code yX8_dayOf cX8_dayOf 1 (some .int), .methodLink RX8 176 yX8_examinerOf, .static yX8_examinerOf, .code yX8_examinerOf cX8_examinerOf 1 (some .int), .methodLink RX8 263 yX0_townOf, .instanceMethod yX0_townOf, .selects RX0 yX0_townOf yX0_townOf, .initialized RX0, .code yX0_townOf cX0_townOf 4 (some .int), .fieldLink RX0 34 "TestHall$Calendar" "examiners" "I", .fieldLink RX0 9 "TestHall$Calendar" "towns" "[I"] ++ wsX10 ++ wsX80 ++ wsX00)
def wsX8_firstToMove_r1 : List Cond := [Cond.fieldLink RX8 25 "TestHall" "line" "LTestHall$Line;", Cond.fieldLink RX8 173 "TestHall$Line" "size" "I", Cond.fieldLink RX8 18 "TestHall" "learners" "[LTestHall$Learner;", Cond.fieldLink RX8 276 "TestHall$Line" "numbers" "[I", Cond.fieldLink RX8 143 "TestHall$Learner" "slot" "I", Cond.methodLink RX8 300 yX8_isSuiting, Cond.instanceMethod yX8_isSuiting, Cond.selects RX8 yX8_isSuiting yX8_isSuiting, Cond.initialized RX8, Cond.code yX8_isSuiting cX8_isSuiting 5 (some .boolean), Cond.fieldLink RX8 109 "TestHall$Learner" "wish" "I", Cond.fieldLink RX8 103 "TestHall$Learner" "from" "I", Cond.fieldLink RX8 106 "TestHall$Learner" "to" "I", Cond.fieldLink RX8 12 "TestHall" "calendar" "LTestHall$Calendar;", Cond.fieldLink RX8 97 "TestHall$Learner" "town" "I", Cond.methodLink RX8 163 yX8_dayOf, Cond.static yX8_dayOf, Cond.code yX8_dayOf cX8_dayOf 1 (some .int), Cond.methodLink RX8 176 yX8_examinerOf, Cond.static yX8_examinerOf, Cond.code yX8_examinerOf cX8_examinerOf 1 (some .int), Cond.methodLink RX8 263 yX0_townOf, Cond.instanceMethod yX0_townOf, Cond.selects RX0 yX0_townOf yX0_townOf]
def wsX8_firstToMove_r2 : List Cond := [Cond.initialized RX0, Cond.code yX0_townOf cX0_townOf 4 (some .int), Cond.fieldLink RX0 34 "TestHall$Calendar" "examiners" "I", Cond.fieldLink RX0 9 "TestHall$Calendar" "towns" "[I"]
def wsX8_firstToMove : List Cond := .code yX8_firstToMove cX8_firstToMove 4 (some (.object "TestHall$Learner")) :: ((wsX8_firstToMove_r1 ++ wsX8_firstToMove_r2) ++ wsX80 ++ wsX20 ++ wsX10 ++ wsX00)
def wsX8_moveUp_r1 : List Cond := [Cond.fieldLink RX8 12 "TestHall" "calendar" "LTestHall$Calendar;", Cond.fieldLink RX8 143 "TestHall$Learner" "slot" "I", Cond.fieldLink RX8 196 "TestHall$Learner" "movedUp" "I", Cond.methodLink RX8 291 yX8_lineUpSooner, Cond.instanceMethod yX8_lineUpSooner, Cond.selects RX8 yX8_lineUpSooner yX8_lineUpSooner, Cond.initialized RX8, Cond.code yX8_lineUpSooner cX8_lineUpSooner 2 none, Cond.fieldLink RX8 25 "TestHall" "line" "LTestHall$Line;", Cond.fieldLink RX8 64 "TestHall" "learnerCount" "I", Cond.fieldLink RX8 18 "TestHall" "learners" "[LTestHall$Learner;", Cond.fieldLink RX8 140 "TestHall$Learner" "state" "I", Cond.fieldLink RX8 112 "TestHall$Learner" "sooner" "Z", Cond.methodLink RX8 160 yX2_clear, Cond.instanceMethod yX2_clear, Cond.selects RX2 yX2_clear yX2_clear, Cond.initialized RX2, Cond.code yX2_clear cX2_clear 1 none, Cond.fieldLink RX2 18 "TestHall$Line" "size" "I", Cond.methodLink RX8 166 yX8_rankOf, Cond.instanceMethod yX8_rankOf, Cond.selects RX8 yX8_rankOf yX8_rankOf, Cond.code yX8_rankOf cX8_rankOf 2 (some .int), Cond.fieldLink RX8 31 "TestHall" "facts" "[I"]
def wsX8_moveUp_r2 : List Cond := [Cond.fieldLink RX8 100 "TestHall$Learner" "sort" "I", Cond.fieldLink RX8 97 "TestHall$Learner" "town" "I", Cond.fieldLink RX8 80 "TestHall$Calendar" "now" "I", Cond.fieldLink RX8 266 "TestHall$Learner" "came" "I", Cond.fieldLink RX8 183 "TestHall$Learner" "tries" "I", Cond.fieldLink RX8 106 "TestHall$Learner" "to" "I", Cond.fieldLink RX8 57 "TestHall" "order" "LTestHall$Text;", Cond.methodLink RX8 269 yX5_rankBy, Cond.instanceMethod yX5_rankBy, Cond.selects RX5 yX5_rankBy yX5_rankBy, Cond.initialized RX5, Cond.code yX5_rankBy cX5_rankBy 4 (some .int), Cond.fieldLink RX5 24 "TestHall$Text" "lines" "I", Cond.fieldLink RX5 13 "TestHall$Text" "ends" "[I", Cond.fieldLink RX5 9 "TestHall$Text" "firsts" "[I", Cond.methodLink RX5 31 yX5_valueOf, Cond.instanceMethod yX5_valueOf, Cond.selects RX5 yX5_valueOf yX5_valueOf, Cond.code yX5_valueOf cX5_valueOf 7 (some .int), Cond.fieldLink RX5 18 "TestHall$Text" "codes" "[I", Cond.fieldLink RX5 21 "TestHall$Text" "stack" "[I", Cond.methodLink RX5 37 yX5_joined, Cond.static yX5_joined, Cond.code yX5_joined cX5_joined 3 (some .int)]
def wsX8_moveUp_r3 : List Cond := [Cond.methodLink RX8 170 yX2_add, Cond.instanceMethod yX2_add, Cond.selects RX2 yX2_add yX2_add, Cond.code yX2_add cX2_add 4 none, Cond.fieldLink RX2 15 "TestHall$Line" "ranks" "[I", Cond.fieldLink RX2 9 "TestHall$Line" "numbers" "[I", Cond.methodLink RX8 294 yX0_isFree, Cond.instanceMethod yX0_isFree, Cond.selects RX0 yX0_isFree yX0_isFree, Cond.initialized RX0, Cond.code yX0_isFree cX0_isFree 3 (some .boolean), Cond.fieldLink RX0 19 "TestHall$Calendar" "booked" "[I", Cond.fieldLink RX0 60 "TestHall$Calendar" "now" "I", Cond.fieldLink RX0 15 "TestHall$Calendar" "shutDays" "[Z", Cond.methodLink RX0 53 yX0_isSlot, Cond.instanceMethod yX0_isSlot, Cond.selects RX0 yX0_isSlot yX0_isSlot, Cond.code yX0_isSlot cX0_isSlot 2 (some .boolean), Cond.static yX8_dayOf, Cond.code yX8_dayOf cX8_dayOf 1 (some .int), Cond.static yX8_hourOf, Cond.code yX8_hourOf cX8_hourOf 1 (some .int), Cond.static yX8_examinerOf, Cond.code yX8_examinerOf cX8_examinerOf 1 (some .int)]
def wsX8_moveUp_r4 : List Cond := [Cond.methodLink RX0 69 yX0_hasHour, Cond.instanceMethod yX0_hasHour, Cond.selects RX0 yX0_hasHour yX0_hasHour, Cond.code yX0_hasHour cX0_hasHour 5 (some .boolean), Cond.methodLink RX0 45 yX0_townOf, Cond.instanceMethod yX0_townOf, Cond.selects RX0 yX0_townOf yX0_townOf, Cond.code yX0_townOf cX0_townOf 4 (some .int), Cond.fieldLink RX0 34 "TestHall$Calendar" "examiners" "I", Cond.fieldLink RX0 9 "TestHall$Calendar" "towns" "[I", Cond.methodLink RX0 49 yX0_isTravel, Cond.static yX0_isTravel, Cond.code yX0_isTravel cX0_isTravel 2 (some .boolean), Cond.methodLink RX8 297 yX8_firstToMove, Cond.instanceMethod yX8_firstToMove, Cond.selects RX8 yX8_firstToMove yX8_firstToMove, Cond.code yX8_firstToMove cX8_firstToMove 4 (some (.object "TestHall$Learner")), Cond.fieldLink RX8 173 "TestHall$Line" "size" "I", Cond.fieldLink RX8 276 "TestHall$Line" "numbers" "[I", Cond.methodLink RX8 300 yX8_isSuiting, Cond.instanceMethod yX8_isSuiting, Cond.selects RX8 yX8_isSuiting yX8_isSuiting, Cond.code yX8_isSuiting cX8_isSuiting 5 (some .boolean), Cond.fieldLink RX8 109 "TestHall$Learner" "wish" "I"]
def wsX8_moveUp_r5 : List Cond := [Cond.fieldLink RX8 103 "TestHall$Learner" "from" "I", Cond.methodLink RX8 163 yX8_dayOf, Cond.methodLink RX8 176 yX8_examinerOf, Cond.methodLink RX8 263 yX0_townOf, Cond.methodLink RX8 146 yX8_release, Cond.instanceMethod yX8_release, Cond.selects RX8 yX8_release yX8_release, Cond.code yX8_release cX8_release 2 none, Cond.methodLink RX8 253 yX0_setBooked, Cond.instanceMethod yX0_setBooked, Cond.selects RX0 yX0_setBooked yX0_setBooked, Cond.code yX0_setBooked cX0_setBooked 3 none, Cond.methodLink RX8 287 yX8_book, Cond.instanceMethod yX8_book, Cond.selects RX8 yX8_book yX8_book, Cond.code yX8_book cX8_book 3 none, Cond.fieldLink RX8 116 "TestHall$Learner" "number" "I"]
def wsX8_moveUp : List Cond := .code yX8_moveUp cX8_moveUp 7 (some .int) :: ((wsX8_moveUp_r1 ++ (wsX8_moveUp_r2 ++ (wsX8_moveUp_r3 ++ (wsX8_moveUp_r4 ++ wsX8_moveUp_r5)))) ++ wsX80 ++ wsX10 ++ wsX20 ++ wsX00 ++ wsX50)
def wsX8_cancel_r1 : List Cond := [Cond.fieldLink RX8 140 "TestHall$Learner" "state" "I", Cond.fieldLink RX8 143 "TestHall$Learner" "slot" "I", Cond.methodLink RX8 136 yX8_find, Cond.instanceMethod yX8_find, Cond.selects RX8 yX8_find yX8_find, Cond.initialized RX8, Cond.code yX8_find cX8_find 2 (some (.object "TestHall$Learner")), Cond.fieldLink RX8 64 "TestHall" "learnerCount" "I", Cond.fieldLink RX8 18 "TestHall" "learners" "[LTestHall$Learner;", Cond.methodLink RX8 76 yX8_isWithin, Cond.static yX8_isWithin, Cond.code yX8_isWithin cX8_isWithin 3 (some .boolean), Cond.methodLink RX8 146 yX8_release, Cond.instanceMethod yX8_release, Cond.selects RX8 yX8_release yX8_release, Cond.code yX8_release cX8_release 2 none, Cond.fieldLink RX8 12 "TestHall" "calendar" "LTestHall$Calendar;", Cond.methodLink RX8 253 yX0_setBooked, Cond.instanceMethod yX0_setBooked, Cond.selects RX0 yX0_setBooked yX0_setBooked, Cond.initialized RX0, Cond.code yX0_setBooked cX0_setBooked 3 none, Cond.fieldLink RX0 19 "TestHall$Calendar" "booked" "[I", Cond.methodLink RX0 53 yX0_isSlot]
def wsX8_cancel_r2 : List Cond := [Cond.instanceMethod yX0_isSlot, Cond.selects RX0 yX0_isSlot yX0_isSlot, Cond.code yX0_isSlot cX0_isSlot 2 (some .boolean), Cond.methodLink RX8 150 yX8_moveUp, Cond.instanceMethod yX8_moveUp, Cond.selects RX8 yX8_moveUp yX8_moveUp, Cond.code yX8_moveUp cX8_moveUp 7 (some .int), Cond.fieldLink RX8 196 "TestHall$Learner" "movedUp" "I", Cond.methodLink RX8 291 yX8_lineUpSooner, Cond.instanceMethod yX8_lineUpSooner, Cond.selects RX8 yX8_lineUpSooner yX8_lineUpSooner, Cond.code yX8_lineUpSooner cX8_lineUpSooner 2 none, Cond.fieldLink RX8 25 "TestHall" "line" "LTestHall$Line;", Cond.fieldLink RX8 112 "TestHall$Learner" "sooner" "Z", Cond.methodLink RX8 160 yX2_clear, Cond.instanceMethod yX2_clear, Cond.selects RX2 yX2_clear yX2_clear, Cond.initialized RX2, Cond.code yX2_clear cX2_clear 1 none, Cond.fieldLink RX2 18 "TestHall$Line" "size" "I", Cond.methodLink RX8 166 yX8_rankOf, Cond.instanceMethod yX8_rankOf, Cond.selects RX8 yX8_rankOf yX8_rankOf, Cond.code yX8_rankOf cX8_rankOf 2 (some .int)]
def wsX8_cancel_r3 : List Cond := [Cond.fieldLink RX8 31 "TestHall" "facts" "[I", Cond.fieldLink RX8 100 "TestHall$Learner" "sort" "I", Cond.fieldLink RX8 97 "TestHall$Learner" "town" "I", Cond.fieldLink RX8 80 "TestHall$Calendar" "now" "I", Cond.fieldLink RX8 266 "TestHall$Learner" "came" "I", Cond.fieldLink RX8 183 "TestHall$Learner" "tries" "I", Cond.fieldLink RX8 106 "TestHall$Learner" "to" "I", Cond.fieldLink RX8 57 "TestHall" "order" "LTestHall$Text;", Cond.methodLink RX8 269 yX5_rankBy, Cond.instanceMethod yX5_rankBy, Cond.selects RX5 yX5_rankBy yX5_rankBy, Cond.initialized RX5, Cond.code yX5_rankBy cX5_rankBy 4 (some .int), Cond.fieldLink RX5 24 "TestHall$Text" "lines" "I", Cond.fieldLink RX5 13 "TestHall$Text" "ends" "[I", Cond.fieldLink RX5 9 "TestHall$Text" "firsts" "[I", Cond.methodLink RX5 31 yX5_valueOf, Cond.instanceMethod yX5_valueOf, Cond.selects RX5 yX5_valueOf yX5_valueOf, Cond.code yX5_valueOf cX5_valueOf 7 (some .int), Cond.fieldLink RX5 18 "TestHall$Text" "codes" "[I", Cond.fieldLink RX5 21 "TestHall$Text" "stack" "[I", Cond.methodLink RX5 37 yX5_joined, Cond.static yX5_joined]
def wsX8_cancel_r4 : List Cond := [Cond.code yX5_joined cX5_joined 3 (some .int), Cond.methodLink RX8 170 yX2_add, Cond.instanceMethod yX2_add, Cond.selects RX2 yX2_add yX2_add, Cond.code yX2_add cX2_add 4 none, Cond.fieldLink RX2 15 "TestHall$Line" "ranks" "[I", Cond.fieldLink RX2 9 "TestHall$Line" "numbers" "[I", Cond.methodLink RX8 294 yX0_isFree, Cond.instanceMethod yX0_isFree, Cond.selects RX0 yX0_isFree yX0_isFree, Cond.code yX0_isFree cX0_isFree 3 (some .boolean), Cond.fieldLink RX0 60 "TestHall$Calendar" "now" "I", Cond.fieldLink RX0 15 "TestHall$Calendar" "shutDays" "[Z", Cond.static yX8_dayOf, Cond.code yX8_dayOf cX8_dayOf 1 (some .int), Cond.static yX8_hourOf, Cond.code yX8_hourOf cX8_hourOf 1 (some .int), Cond.static yX8_examinerOf, Cond.code yX8_examinerOf cX8_examinerOf 1 (some .int), Cond.methodLink RX0 69 yX0_hasHour, Cond.instanceMethod yX0_hasHour, Cond.selects RX0 yX0_hasHour yX0_hasHour, Cond.code yX0_hasHour cX0_hasHour 5 (some .boolean), Cond.methodLink RX0 45 yX0_townOf]
def wsX8_cancel_r5 : List Cond := [Cond.instanceMethod yX0_townOf, Cond.selects RX0 yX0_townOf yX0_townOf, Cond.code yX0_townOf cX0_townOf 4 (some .int), Cond.fieldLink RX0 34 "TestHall$Calendar" "examiners" "I", Cond.fieldLink RX0 9 "TestHall$Calendar" "towns" "[I", Cond.methodLink RX0 49 yX0_isTravel, Cond.static yX0_isTravel, Cond.code yX0_isTravel cX0_isTravel 2 (some .boolean), Cond.methodLink RX8 297 yX8_firstToMove, Cond.instanceMethod yX8_firstToMove, Cond.selects RX8 yX8_firstToMove yX8_firstToMove, Cond.code yX8_firstToMove cX8_firstToMove 4 (some (.object "TestHall$Learner")), Cond.fieldLink RX8 173 "TestHall$Line" "size" "I", Cond.fieldLink RX8 276 "TestHall$Line" "numbers" "[I", Cond.methodLink RX8 300 yX8_isSuiting, Cond.instanceMethod yX8_isSuiting, Cond.selects RX8 yX8_isSuiting yX8_isSuiting, Cond.code yX8_isSuiting cX8_isSuiting 5 (some .boolean), Cond.fieldLink RX8 109 "TestHall$Learner" "wish" "I", Cond.fieldLink RX8 103 "TestHall$Learner" "from" "I", Cond.methodLink RX8 163 yX8_dayOf, Cond.methodLink RX8 176 yX8_examinerOf, Cond.methodLink RX8 263 yX0_townOf, Cond.methodLink RX8 287 yX8_book]
def wsX8_cancel_r6 : List Cond := [Cond.instanceMethod yX8_book, Cond.selects RX8 yX8_book yX8_book, Cond.code yX8_book cX8_book 3 none, Cond.fieldLink RX8 116 "TestHall$Learner" "number" "I"]
def wsX8_cancel : List Cond := .code yX8_cancel cX8_cancel 4 (some .int) :: ((wsX8_cancel_r1 ++ (wsX8_cancel_r2 ++ (wsX8_cancel_r3 ++ (wsX8_cancel_r4 ++ (wsX8_cancel_r5 ++ wsX8_cancel_r6))))) ++ wsX10 ++ wsX80 ++ wsX00 ++ wsX20 ++ wsX50)
def wsX8_leave_r1 : List Cond := [Cond.fieldLink RX8 140 "TestHall$Learner" "state" "I", Cond.fieldLink RX8 143 "TestHall$Learner" "slot" "I", Cond.methodLink RX8 136 yX8_find, Cond.instanceMethod yX8_find, Cond.selects RX8 yX8_find yX8_find, Cond.initialized RX8, Cond.code yX8_find cX8_find 2 (some (.object "TestHall$Learner")), Cond.fieldLink RX8 64 "TestHall" "learnerCount" "I", Cond.fieldLink RX8 18 "TestHall" "learners" "[LTestHall$Learner;", Cond.methodLink RX8 76 yX8_isWithin, Cond.static yX8_isWithin, Cond.code yX8_isWithin cX8_isWithin 3 (some .boolean), Cond.methodLink RX8 146 yX8_release, Cond.instanceMethod yX8_release, Cond.selects RX8 yX8_release yX8_release, Cond.code yX8_release cX8_release 2 none, Cond.fieldLink RX8 12 "TestHall" "calendar" "LTestHall$Calendar;", Cond.methodLink RX8 253 yX0_setBooked, Cond.instanceMethod yX0_setBooked, Cond.selects RX0 yX0_setBooked yX0_setBooked, Cond.initialized RX0, Cond.code yX0_setBooked cX0_setBooked 3 none, Cond.fieldLink RX0 19 "TestHall$Calendar" "booked" "[I", Cond.methodLink RX0 53 yX0_isSlot]
def wsX8_leave_r2 : List Cond := [Cond.instanceMethod yX0_isSlot, Cond.selects RX0 yX0_isSlot yX0_isSlot, Cond.code yX0_isSlot cX0_isSlot 2 (some .boolean), Cond.methodLink RX8 150 yX8_moveUp, Cond.instanceMethod yX8_moveUp, Cond.selects RX8 yX8_moveUp yX8_moveUp, Cond.code yX8_moveUp cX8_moveUp 7 (some .int), Cond.fieldLink RX8 196 "TestHall$Learner" "movedUp" "I", Cond.methodLink RX8 291 yX8_lineUpSooner, Cond.instanceMethod yX8_lineUpSooner, Cond.selects RX8 yX8_lineUpSooner yX8_lineUpSooner, Cond.code yX8_lineUpSooner cX8_lineUpSooner 2 none, Cond.fieldLink RX8 25 "TestHall" "line" "LTestHall$Line;", Cond.fieldLink RX8 112 "TestHall$Learner" "sooner" "Z", Cond.methodLink RX8 160 yX2_clear, Cond.instanceMethod yX2_clear, Cond.selects RX2 yX2_clear yX2_clear, Cond.initialized RX2, Cond.code yX2_clear cX2_clear 1 none, Cond.fieldLink RX2 18 "TestHall$Line" "size" "I", Cond.methodLink RX8 166 yX8_rankOf, Cond.instanceMethod yX8_rankOf, Cond.selects RX8 yX8_rankOf yX8_rankOf, Cond.code yX8_rankOf cX8_rankOf 2 (some .int)]
def wsX8_leave_r3 : List Cond := [Cond.fieldLink RX8 31 "TestHall" "facts" "[I", Cond.fieldLink RX8 100 "TestHall$Learner" "sort" "I", Cond.fieldLink RX8 97 "TestHall$Learner" "town" "I", Cond.fieldLink RX8 80 "TestHall$Calendar" "now" "I", Cond.fieldLink RX8 266 "TestHall$Learner" "came" "I", Cond.fieldLink RX8 183 "TestHall$Learner" "tries" "I", Cond.fieldLink RX8 106 "TestHall$Learner" "to" "I", Cond.fieldLink RX8 57 "TestHall" "order" "LTestHall$Text;", Cond.methodLink RX8 269 yX5_rankBy, Cond.instanceMethod yX5_rankBy, Cond.selects RX5 yX5_rankBy yX5_rankBy, Cond.initialized RX5, Cond.code yX5_rankBy cX5_rankBy 4 (some .int), Cond.fieldLink RX5 24 "TestHall$Text" "lines" "I", Cond.fieldLink RX5 13 "TestHall$Text" "ends" "[I", Cond.fieldLink RX5 9 "TestHall$Text" "firsts" "[I", Cond.methodLink RX5 31 yX5_valueOf, Cond.instanceMethod yX5_valueOf, Cond.selects RX5 yX5_valueOf yX5_valueOf, Cond.code yX5_valueOf cX5_valueOf 7 (some .int), Cond.fieldLink RX5 18 "TestHall$Text" "codes" "[I", Cond.fieldLink RX5 21 "TestHall$Text" "stack" "[I", Cond.methodLink RX5 37 yX5_joined, Cond.static yX5_joined]
def wsX8_leave_r4 : List Cond := [Cond.code yX5_joined cX5_joined 3 (some .int), Cond.methodLink RX8 170 yX2_add, Cond.instanceMethod yX2_add, Cond.selects RX2 yX2_add yX2_add, Cond.code yX2_add cX2_add 4 none, Cond.fieldLink RX2 15 "TestHall$Line" "ranks" "[I", Cond.fieldLink RX2 9 "TestHall$Line" "numbers" "[I", Cond.methodLink RX8 294 yX0_isFree, Cond.instanceMethod yX0_isFree, Cond.selects RX0 yX0_isFree yX0_isFree, Cond.code yX0_isFree cX0_isFree 3 (some .boolean), Cond.fieldLink RX0 60 "TestHall$Calendar" "now" "I", Cond.fieldLink RX0 15 "TestHall$Calendar" "shutDays" "[Z", Cond.static yX8_dayOf, Cond.code yX8_dayOf cX8_dayOf 1 (some .int), Cond.static yX8_hourOf, Cond.code yX8_hourOf cX8_hourOf 1 (some .int), Cond.static yX8_examinerOf, Cond.code yX8_examinerOf cX8_examinerOf 1 (some .int), Cond.methodLink RX0 69 yX0_hasHour, Cond.instanceMethod yX0_hasHour, Cond.selects RX0 yX0_hasHour yX0_hasHour, Cond.code yX0_hasHour cX0_hasHour 5 (some .boolean), Cond.methodLink RX0 45 yX0_townOf]
def wsX8_leave_r5 : List Cond := [Cond.instanceMethod yX0_townOf, Cond.selects RX0 yX0_townOf yX0_townOf, Cond.code yX0_townOf cX0_townOf 4 (some .int), Cond.fieldLink RX0 34 "TestHall$Calendar" "examiners" "I", Cond.fieldLink RX0 9 "TestHall$Calendar" "towns" "[I", Cond.methodLink RX0 49 yX0_isTravel, Cond.static yX0_isTravel, Cond.code yX0_isTravel cX0_isTravel 2 (some .boolean), Cond.methodLink RX8 297 yX8_firstToMove, Cond.instanceMethod yX8_firstToMove, Cond.selects RX8 yX8_firstToMove yX8_firstToMove, Cond.code yX8_firstToMove cX8_firstToMove 4 (some (.object "TestHall$Learner")), Cond.fieldLink RX8 173 "TestHall$Line" "size" "I", Cond.fieldLink RX8 276 "TestHall$Line" "numbers" "[I", Cond.methodLink RX8 300 yX8_isSuiting, Cond.instanceMethod yX8_isSuiting, Cond.selects RX8 yX8_isSuiting yX8_isSuiting, Cond.code yX8_isSuiting cX8_isSuiting 5 (some .boolean), Cond.fieldLink RX8 109 "TestHall$Learner" "wish" "I", Cond.fieldLink RX8 103 "TestHall$Learner" "from" "I", Cond.methodLink RX8 163 yX8_dayOf, Cond.methodLink RX8 176 yX8_examinerOf, Cond.methodLink RX8 263 yX0_townOf, Cond.methodLink RX8 287 yX8_book]
def wsX8_leave_r6 : List Cond := [Cond.instanceMethod yX8_book, Cond.selects RX8 yX8_book yX8_book, Cond.code yX8_book cX8_book 3 none, Cond.fieldLink RX8 116 "TestHall$Learner" "number" "I"]
def wsX8_leave : List Cond := .code yX8_leave cX8_leave 4 (some .boolean) :: ((wsX8_leave_r1 ++ (wsX8_leave_r2 ++ (wsX8_leave_r3 ++ (wsX8_leave_r4 ++ (wsX8_leave_r5 ++ wsX8_leave_r6))))) ++ wsX10 ++ wsX80 ++ wsX00 ++ wsX20 ++ wsX50)
def wsX8_shut_r1 : List Cond := [Cond.fieldLink RX8 12 "TestHall" "calendar" "LTestHall$Calendar;", Cond.fieldLink RX8 80 "TestHall$Calendar" "now" "I", Cond.fieldLink RX8 25 "TestHall" "line" "LTestHall$Line;", Cond.fieldLink RX8 64 "TestHall" "learnerCount" "I", Cond.fieldLink RX8 18 "TestHall" "learners" "[LTestHall$Learner;", Cond.fieldLink RX8 140 "TestHall$Learner" "state" "I", Cond.fieldLink RX8 143 "TestHall$Learner" "slot" "I", Cond.fieldLink RX8 173 "TestHall$Line" "size" "I", Cond.methodLink RX8 91 yX8_isDay, Cond.static yX8_isDay, Cond.initialized RX8, Cond.code yX8_isDay cX8_isDay 1 (some .boolean), Cond.methodLink RX8 153 yX0_isShut, Cond.instanceMethod yX0_isShut, Cond.selects RX0 yX0_isShut yX0_isShut, Cond.initialized RX0, Cond.code yX0_isShut cX0_isShut 2 (some .boolean), Cond.fieldLink RX0 15 "TestHall$Calendar" "shutDays" "[Z", Cond.methodLink RX8 156 yX0_shutDay, Cond.instanceMethod yX0_shutDay, Cond.selects RX0 yX0_shutDay yX0_shutDay, Cond.code yX0_shutDay cX0_shutDay 2 none, Cond.methodLink RX8 160 yX2_clear, Cond.instanceMethod yX2_clear]
def wsX8_shut_r2 : List Cond := [Cond.selects RX2 yX2_clear yX2_clear, Cond.initialized RX2, Cond.code yX2_clear cX2_clear 1 none, Cond.fieldLink RX2 18 "TestHall$Line" "size" "I", Cond.methodLink RX8 163 yX8_dayOf, Cond.static yX8_dayOf, Cond.code yX8_dayOf cX8_dayOf 1 (some .int), Cond.methodLink RX8 146 yX8_release, Cond.instanceMethod yX8_release, Cond.selects RX8 yX8_release yX8_release, Cond.code yX8_release cX8_release 2 none, Cond.methodLink RX8 253 yX0_setBooked, Cond.instanceMethod yX0_setBooked, Cond.selects RX0 yX0_setBooked yX0_setBooked, Cond.code yX0_setBooked cX0_setBooked 3 none, Cond.fieldLink RX0 19 "TestHall$Calendar" "booked" "[I", Cond.methodLink RX0 53 yX0_isSlot, Cond.instanceMethod yX0_isSlot, Cond.selects RX0 yX0_isSlot yX0_isSlot, Cond.code yX0_isSlot cX0_isSlot 2 (some .boolean), Cond.methodLink RX8 166 yX8_rankOf, Cond.instanceMethod yX8_rankOf, Cond.selects RX8 yX8_rankOf yX8_rankOf, Cond.code yX8_rankOf cX8_rankOf 2 (some .int)]
def wsX8_shut_r3 : List Cond := [Cond.fieldLink RX8 31 "TestHall" "facts" "[I", Cond.fieldLink RX8 100 "TestHall$Learner" "sort" "I", Cond.fieldLink RX8 97 "TestHall$Learner" "town" "I", Cond.fieldLink RX8 266 "TestHall$Learner" "came" "I", Cond.fieldLink RX8 183 "TestHall$Learner" "tries" "I", Cond.fieldLink RX8 106 "TestHall$Learner" "to" "I", Cond.fieldLink RX8 57 "TestHall" "order" "LTestHall$Text;", Cond.methodLink RX8 269 yX5_rankBy, Cond.instanceMethod yX5_rankBy, Cond.selects RX5 yX5_rankBy yX5_rankBy, Cond.initialized RX5, Cond.code yX5_rankBy cX5_rankBy 4 (some .int), Cond.fieldLink RX5 24 "TestHall$Text" "lines" "I", Cond.fieldLink RX5 13 "TestHall$Text" "ends" "[I", Cond.fieldLink RX5 9 "TestHall$Text" "firsts" "[I", Cond.methodLink RX5 31 yX5_valueOf, Cond.instanceMethod yX5_valueOf, Cond.selects RX5 yX5_valueOf yX5_valueOf, Cond.code yX5_valueOf cX5_valueOf 7 (some .int), Cond.fieldLink RX5 18 "TestHall$Text" "codes" "[I", Cond.fieldLink RX5 21 "TestHall$Text" "stack" "[I", Cond.methodLink RX5 37 yX5_joined, Cond.static yX5_joined, Cond.code yX5_joined cX5_joined 3 (some .int)]
def wsX8_shut_r4 : List Cond := [Cond.methodLink RX8 170 yX2_add, Cond.instanceMethod yX2_add, Cond.selects RX2 yX2_add yX2_add, Cond.code yX2_add cX2_add 4 none, Cond.fieldLink RX2 15 "TestHall$Line" "ranks" "[I", Cond.fieldLink RX2 9 "TestHall$Line" "numbers" "[I", Cond.methodLink RX8 133 yX8_dealLine, Cond.instanceMethod yX8_dealLine, Cond.selects RX8 yX8_dealLine yX8_dealLine, Cond.code yX8_dealLine cX8_dealLine 5 (some .int), Cond.fieldLink RX8 276 "TestHall$Line" "numbers" "[I", Cond.fieldLink RX8 109 "TestHall$Learner" "wish" "I", Cond.fieldLink RX8 103 "TestHall$Learner" "from" "I", Cond.methodLink RX8 279 Lib.Math.max.name, Cond.static Lib.Math.max.name, Cond.initialized "java/lang/Math", Cond.code Lib.Math.max.name Lib.Math.max.code 2 (some .int), Cond.methodLink RX8 284 yX0_leastFree, Cond.instanceMethod yX0_leastFree, Cond.selects RX0 yX0_leastFree yX0_leastFree, Cond.code yX0_leastFree cX0_leastFree 6 (some .int), Cond.fieldLink RX0 60 "TestHall$Calendar" "now" "I", Cond.methodLink RX0 73 Lib.Math.max.name, Cond.methodLink RX0 78 yX0_leastFreeOn]
def wsX8_shut_r5 : List Cond := [Cond.instanceMethod yX0_leastFreeOn, Cond.selects RX0 yX0_leastFreeOn yX0_leastFreeOn, Cond.code yX0_leastFreeOn cX0_leastFreeOn 6 (some .int), Cond.fieldLink RX0 34 "TestHall$Calendar" "examiners" "I", Cond.methodLink RX0 45 yX0_townOf, Cond.instanceMethod yX0_townOf, Cond.selects RX0 yX0_townOf yX0_townOf, Cond.code yX0_townOf cX0_townOf 4 (some .int), Cond.fieldLink RX0 9 "TestHall$Calendar" "towns" "[I", Cond.methodLink RX0 81 yX0_firstFreeOf, Cond.instanceMethod yX0_firstFreeOf, Cond.selects RX0 yX0_firstFreeOf yX0_firstFreeOf, Cond.code yX0_firstFreeOf cX0_firstFreeOf 4 (some .int), Cond.static yX8_slotOf, Cond.code yX8_slotOf cX8_slotOf 3 (some .int), Cond.methodLink RX0 88 yX0_isFree, Cond.instanceMethod yX0_isFree, Cond.selects RX0 yX0_isFree yX0_isFree, Cond.code yX0_isFree cX0_isFree 3 (some .boolean), Cond.static yX8_hourOf, Cond.code yX8_hourOf cX8_hourOf 1 (some .int), Cond.static yX8_examinerOf, Cond.code yX8_examinerOf cX8_examinerOf 1 (some .int), Cond.methodLink RX0 69 yX0_hasHour]
def wsX8_shut_r6 : List Cond := [Cond.instanceMethod yX0_hasHour, Cond.selects RX0 yX0_hasHour yX0_hasHour, Cond.code yX0_hasHour cX0_hasHour 5 (some .boolean), Cond.methodLink RX0 49 yX0_isTravel, Cond.static yX0_isTravel, Cond.code yX0_isTravel cX0_isTravel 2 (some .boolean), Cond.methodLink RX8 287 yX8_book, Cond.instanceMethod yX8_book, Cond.selects RX8 yX8_book yX8_book, Cond.code yX8_book cX8_book 3 none, Cond.fieldLink RX8 116 "TestHall$Learner" "number" "I"]
def wsX8_shut : List Cond := .code yX8_shut cX8_shut 4 (some .int) :: ((wsX8_shut_r1 ++ (wsX8_shut_r2 ++ (wsX8_shut_r3 ++ (wsX8_shut_r4 ++ (wsX8_shut_r5 ++ wsX8_shut_r6))))) ++ wsX80 ++ wsX00 ++ wsX10 ++ wsX20 ++ wsX50)
def wsX8_days_r1 : List Cond := [Cond.fieldLink RX8 12 "TestHall" "calendar" "LTestHall$Calendar;", Cond.fieldLink RX8 80 "TestHall$Calendar" "now" "I", Cond.fieldLink RX8 64 "TestHall" "learnerCount" "I", Cond.fieldLink RX8 18 "TestHall" "learners" "[LTestHall$Learner;", Cond.fieldLink RX8 140 "TestHall$Learner" "state" "I", Cond.fieldLink RX8 143 "TestHall$Learner" "slot" "I", Cond.methodLink RX8 76 yX8_isWithin, Cond.static yX8_isWithin, Cond.initialized RX8, Cond.code yX8_isWithin cX8_isWithin 3 (some .boolean), Cond.methodLink RX8 91 yX8_isDay, Cond.static yX8_isDay, Cond.code yX8_isDay cX8_isDay 1 (some .boolean), Cond.methodLink RX8 163 yX8_dayOf, Cond.static yX8_dayOf, Cond.code yX8_dayOf cX8_dayOf 1 (some .int), Cond.methodLink RX8 146 yX8_release, Cond.instanceMethod yX8_release, Cond.selects RX8 yX8_release yX8_release, Cond.code yX8_release cX8_release 2 none, Cond.methodLink RX8 253 yX0_setBooked, Cond.instanceMethod yX0_setBooked, Cond.selects RX0 yX0_setBooked yX0_setBooked, Cond.initialized RX0]
def wsX8_days_r2 : List Cond := [Cond.code yX0_setBooked cX0_setBooked 3 none, Cond.fieldLink RX0 19 "TestHall$Calendar" "booked" "[I", Cond.methodLink RX0 53 yX0_isSlot, Cond.instanceMethod yX0_isSlot, Cond.selects RX0 yX0_isSlot yX0_isSlot, Cond.code yX0_isSlot cX0_isSlot 2 (some .boolean)]
def wsX8_days : List Cond := .code yX8_days cX8_days 4 (some .int) :: ((wsX8_days_r1 ++ wsX8_days_r2) ++ wsX80 ++ wsX00 ++ wsX10)
def wsX8_held_r1 : List Cond := [Cond.fieldLink RX8 140 "TestHall$Learner" "state" "I", Cond.fieldLink RX8 143 "TestHall$Learner" "slot" "I", Cond.fieldLink RX8 12 "TestHall" "calendar" "LTestHall$Calendar;", Cond.fieldLink RX8 80 "TestHall$Calendar" "now" "I", Cond.fieldLink RX8 183 "TestHall$Learner" "tries" "I", Cond.methodLink RX8 136 yX8_find, Cond.instanceMethod yX8_find, Cond.selects RX8 yX8_find yX8_find, Cond.initialized RX8, Cond.code yX8_find cX8_find 2 (some (.object "TestHall$Learner")), Cond.fieldLink RX8 64 "TestHall" "learnerCount" "I", Cond.fieldLink RX8 18 "TestHall" "learners" "[LTestHall$Learner;", Cond.methodLink RX8 76 yX8_isWithin, Cond.static yX8_isWithin, Cond.code yX8_isWithin cX8_isWithin 3 (some .boolean), Cond.methodLink RX8 163 yX8_dayOf, Cond.static yX8_dayOf, Cond.code yX8_dayOf cX8_dayOf 1 (some .int), Cond.methodLink RX8 176 yX8_examinerOf, Cond.static yX8_examinerOf, Cond.code yX8_examinerOf cX8_examinerOf 1 (some .int), Cond.methodLink RX8 179 yX0_noteTest, Cond.instanceMethod yX0_noteTest, Cond.selects RX0 yX0_noteTest yX0_noteTest]
def wsX8_held_r2 : List Cond := [Cond.initialized RX0, Cond.code yX0_noteTest cX0_noteTest 3 none, Cond.fieldLink RX0 22 "TestHall$Calendar" "tests" "[I", Cond.fieldLink RX0 91 "TestHall$Calendar" "allTests" "I", Cond.fieldLink RX0 25 "TestHall$Calendar" "passes" "[I", Cond.fieldLink RX0 94 "TestHall$Calendar" "allPasses" "I", Cond.methodLink RX0 38 yX0_isExaminer, Cond.instanceMethod yX0_isExaminer, Cond.selects RX0 yX0_isExaminer yX0_isExaminer, Cond.code yX0_isExaminer cX0_isExaminer 2 (some .boolean), Cond.fieldLink RX0 34 "TestHall$Calendar" "examiners" "I", Cond.methodLink RX8 146 yX8_release, Cond.instanceMethod yX8_release, Cond.selects RX8 yX8_release yX8_release, Cond.code yX8_release cX8_release 2 none, Cond.methodLink RX8 253 yX0_setBooked, Cond.instanceMethod yX0_setBooked, Cond.selects RX0 yX0_setBooked yX0_setBooked, Cond.code yX0_setBooked cX0_setBooked 3 none, Cond.fieldLink RX0 19 "TestHall$Calendar" "booked" "[I", Cond.methodLink RX0 53 yX0_isSlot, Cond.instanceMethod yX0_isSlot, Cond.selects RX0 yX0_isSlot yX0_isSlot, Cond.code yX0_isSlot cX0_isSlot 2 (some .boolean)]
def wsX8_held : List Cond := .code yX8_held cX8_held 4 (some .boolean) :: ((wsX8_held_r1 ++ wsX8_held_r2) ++ wsX10 ++ wsX80 ++ wsX00)
def wsX8_placeAmongWaiting_r1 : List Cond := [Cond.fieldLink RX8 25 "TestHall" "line" "LTestHall$Line;", Cond.fieldLink RX8 116 "TestHall$Learner" "number" "I", Cond.methodLink RX8 130 yX8_lineUpWaiting, Cond.instanceMethod yX8_lineUpWaiting, Cond.selects RX8 yX8_lineUpWaiting yX8_lineUpWaiting, Cond.initialized RX8, Cond.code yX8_lineUpWaiting cX8_lineUpWaiting 2 none, Cond.fieldLink RX8 64 "TestHall" "learnerCount" "I", Cond.fieldLink RX8 18 "TestHall" "learners" "[LTestHall$Learner;", Cond.fieldLink RX8 140 "TestHall$Learner" "state" "I", Cond.methodLink RX8 160 yX2_clear, Cond.instanceMethod yX2_clear, Cond.selects RX2 yX2_clear yX2_clear, Cond.initialized RX2, Cond.code yX2_clear cX2_clear 1 none, Cond.fieldLink RX2 18 "TestHall$Line" "size" "I", Cond.methodLink RX8 166 yX8_rankOf, Cond.instanceMethod yX8_rankOf, Cond.selects RX8 yX8_rankOf yX8_rankOf, Cond.code yX8_rankOf cX8_rankOf 2 (some .int), Cond.fieldLink RX8 31 "TestHall" "facts" "[I", Cond.fieldLink RX8 100 "TestHall$Learner" "sort" "I", Cond.fieldLink RX8 97 "TestHall$Learner" "town" "I", Cond.fieldLink RX8 12 "TestHall" "calendar" "LTestHall$Calendar;"]
def wsX8_placeAmongWaiting_r2 : List Cond := [Cond.fieldLink RX8 80 "TestHall$Calendar" "now" "I", Cond.fieldLink RX8 266 "TestHall$Learner" "came" "I", Cond.fieldLink RX8 183 "TestHall$Learner" "tries" "I", Cond.fieldLink RX8 106 "TestHall$Learner" "to" "I", Cond.fieldLink RX8 57 "TestHall" "order" "LTestHall$Text;", Cond.methodLink RX8 269 yX5_rankBy, Cond.instanceMethod yX5_rankBy, Cond.selects RX5 yX5_rankBy yX5_rankBy, Cond.initialized RX5, Cond.code yX5_rankBy cX5_rankBy 4 (some .int), Cond.fieldLink RX5 24 "TestHall$Text" "lines" "I", Cond.fieldLink RX5 13 "TestHall$Text" "ends" "[I", Cond.fieldLink RX5 9 "TestHall$Text" "firsts" "[I", Cond.methodLink RX5 31 yX5_valueOf, Cond.instanceMethod yX5_valueOf, Cond.selects RX5 yX5_valueOf yX5_valueOf, Cond.code yX5_valueOf cX5_valueOf 7 (some .int), Cond.fieldLink RX5 18 "TestHall$Text" "codes" "[I", Cond.fieldLink RX5 21 "TestHall$Text" "stack" "[I", Cond.methodLink RX5 37 yX5_joined, Cond.static yX5_joined, Cond.code yX5_joined cX5_joined 3 (some .int), Cond.methodLink RX8 170 yX2_add, Cond.instanceMethod yX2_add]
def wsX8_placeAmongWaiting_r3 : List Cond := [Cond.selects RX2 yX2_add yX2_add, Cond.code yX2_add cX2_add 4 none, Cond.fieldLink RX2 15 "TestHall$Line" "ranks" "[I", Cond.fieldLink RX2 9 "TestHall$Line" "numbers" "[I", Cond.methodLink RX8 273 yX2_placeOf, Cond.instanceMethod yX2_placeOf, Cond.selects RX2 yX2_placeOf yX2_placeOf, Cond.code yX2_placeOf cX2_placeOf 3 (some .int)]
def wsX8_placeAmongWaiting : List Cond := .code yX8_placeAmongWaiting cX8_placeAmongWaiting 2 (some .int) :: ((wsX8_placeAmongWaiting_r1 ++ (wsX8_placeAmongWaiting_r2 ++ wsX8_placeAmongWaiting_r3)) ++ wsX80 ++ wsX10 ++ wsX20 ++ wsX00 ++ wsX50)
def wsX8_look_r1 : List Cond := [Cond.classLink RX8 186 "java/util/NoSuchElementException", Cond.initialized "java/util/NoSuchElementException", Cond.fieldLink RX8 140 "TestHall$Learner" "state" "I", Cond.fieldLink RX8 143 "TestHall$Learner" "slot" "I", Cond.fieldLink RX8 183 "TestHall$Learner" "tries" "I", Cond.fieldLink RX8 196 "TestHall$Learner" "movedUp" "I", Cond.methodLink RX8 136 yX8_find, Cond.instanceMethod yX8_find, Cond.selects RX8 yX8_find yX8_find, Cond.initialized RX8, Cond.code yX8_find cX8_find 2 (some (.object "TestHall$Learner")), Cond.fieldLink RX8 64 "TestHall" "learnerCount" "I", Cond.fieldLink RX8 18 "TestHall" "learners" "[LTestHall$Learner;", Cond.methodLink RX8 76 yX8_isWithin, Cond.static yX8_isWithin, Cond.code yX8_isWithin cX8_isWithin 3 (some .boolean), Cond.methodLink RX8 193 yX8_placeAmongWaiting, Cond.instanceMethod yX8_placeAmongWaiting, Cond.selects RX8 yX8_placeAmongWaiting yX8_placeAmongWaiting, Cond.code yX8_placeAmongWaiting cX8_placeAmongWaiting 2 (some .int), Cond.fieldLink RX8 25 "TestHall" "line" "LTestHall$Line;", Cond.fieldLink RX8 116 "TestHall$Learner" "number" "I", Cond.methodLink RX8 130 yX8_lineUpWaiting, Cond.instanceMethod yX8_lineUpWaiting]
def wsX8_look_r2 : List Cond := [Cond.selects RX8 yX8_lineUpWaiting yX8_lineUpWaiting, Cond.code yX8_lineUpWaiting cX8_lineUpWaiting 2 none, Cond.methodLink RX8 160 yX2_clear, Cond.instanceMethod yX2_clear, Cond.selects RX2 yX2_clear yX2_clear, Cond.initialized RX2, Cond.code yX2_clear cX2_clear 1 none, Cond.fieldLink RX2 18 "TestHall$Line" "size" "I", Cond.methodLink RX8 166 yX8_rankOf, Cond.instanceMethod yX8_rankOf, Cond.selects RX8 yX8_rankOf yX8_rankOf, Cond.code yX8_rankOf cX8_rankOf 2 (some .int), Cond.fieldLink RX8 31 "TestHall" "facts" "[I", Cond.fieldLink RX8 100 "TestHall$Learner" "sort" "I", Cond.fieldLink RX8 97 "TestHall$Learner" "town" "I", Cond.fieldLink RX8 12 "TestHall" "calendar" "LTestHall$Calendar;", Cond.fieldLink RX8 80 "TestHall$Calendar" "now" "I", Cond.fieldLink RX8 266 "TestHall$Learner" "came" "I", Cond.fieldLink RX8 106 "TestHall$Learner" "to" "I", Cond.fieldLink RX8 57 "TestHall" "order" "LTestHall$Text;", Cond.methodLink RX8 269 yX5_rankBy, Cond.instanceMethod yX5_rankBy, Cond.selects RX5 yX5_rankBy yX5_rankBy, Cond.initialized RX5]
def wsX8_look_r3 : List Cond := [Cond.code yX5_rankBy cX5_rankBy 4 (some .int), Cond.fieldLink RX5 24 "TestHall$Text" "lines" "I", Cond.fieldLink RX5 13 "TestHall$Text" "ends" "[I", Cond.fieldLink RX5 9 "TestHall$Text" "firsts" "[I", Cond.methodLink RX5 31 yX5_valueOf, Cond.instanceMethod yX5_valueOf, Cond.selects RX5 yX5_valueOf yX5_valueOf, Cond.code yX5_valueOf cX5_valueOf 7 (some .int), Cond.fieldLink RX5 18 "TestHall$Text" "codes" "[I", Cond.fieldLink RX5 21 "TestHall$Text" "stack" "[I", Cond.methodLink RX5 37 yX5_joined, Cond.static yX5_joined, Cond.code yX5_joined cX5_joined 3 (some .int), Cond.methodLink RX8 170 yX2_add, Cond.instanceMethod yX2_add, Cond.selects RX2 yX2_add yX2_add, Cond.code yX2_add cX2_add 4 none, Cond.fieldLink RX2 15 "TestHall$Line" "ranks" "[I", Cond.fieldLink RX2 9 "TestHall$Line" "numbers" "[I", Cond.methodLink RX8 273 yX2_placeOf, Cond.instanceMethod yX2_placeOf, Cond.selects RX2 yX2_placeOf yX2_placeOf, Cond.code yX2_placeOf cX2_placeOf 3 (some .int)]
def wsX8_look : List Cond := .code yX8_look cX8_look 4 (some .int) :: ((wsX8_look_r1 ++ (wsX8_look_r2 ++ wsX8_look_r3)) ++ wsX10 ++ wsX80 ++ wsX20 ++ wsX00 ++ wsX50 ++ (vx_atS RX8 190 "java/util/NoSuchElementException" ["java/lang/RuntimeException", "java/lang/Exception"]).filter goodWord)
def wsX8_at_r1 : List Cond := [Cond.fieldLink RX8 12 "TestHall" "calendar" "LTestHall$Calendar;", Cond.methodLink RX8 91 yX8_isDay, Cond.static yX8_isDay, Cond.initialized RX8, Cond.code yX8_isDay cX8_isDay 1 (some .boolean), Cond.methodLink RX8 76 yX8_isWithin, Cond.static yX8_isWithin, Cond.code yX8_isWithin cX8_isWithin 3 (some .boolean), Cond.methodLink RX8 72 yX0_isExaminer, Cond.instanceMethod yX0_isExaminer, Cond.selects RX0 yX0_isExaminer yX0_isExaminer, Cond.initialized RX0, Cond.code yX0_isExaminer cX0_isExaminer 2 (some .boolean), Cond.fieldLink RX0 34 "TestHall$Calendar" "examiners" "I", Cond.methodLink RX8 201 yX0_hasHour, Cond.instanceMethod yX0_hasHour, Cond.selects RX0 yX0_hasHour yX0_hasHour, Cond.code yX0_hasHour cX0_hasHour 5 (some .boolean), Cond.methodLink RX0 45 yX0_townOf, Cond.instanceMethod yX0_townOf, Cond.selects RX0 yX0_townOf yX0_townOf, Cond.code yX0_townOf cX0_townOf 4 (some .int), Cond.fieldLink RX0 9 "TestHall$Calendar" "towns" "[I", Cond.methodLink RX0 49 yX0_isTravel]
def wsX8_at_r2 : List Cond := [Cond.static yX0_isTravel, Cond.code yX0_isTravel cX0_isTravel 2 (some .boolean), Cond.methodLink RX8 204 yX8_slotOf, Cond.static yX8_slotOf, Cond.code yX8_slotOf cX8_slotOf 3 (some .int), Cond.methodLink RX8 208 yX0_bookedIn, Cond.instanceMethod yX0_bookedIn, Cond.selects RX0 yX0_bookedIn yX0_bookedIn, Cond.code yX0_bookedIn cX0_bookedIn 2 (some .int), Cond.fieldLink RX0 19 "TestHall$Calendar" "booked" "[I", Cond.methodLink RX0 53 yX0_isSlot, Cond.instanceMethod yX0_isSlot, Cond.selects RX0 yX0_isSlot yX0_isSlot, Cond.code yX0_isSlot cX0_isSlot 2 (some .boolean)]
def wsX8_at : List Cond := .code yX8_at cX8_at 4 (some .int) :: ((wsX8_at_r1 ++ wsX8_at_r2) ++ wsX80 ++ wsX00)
def wsX8_street : List Cond := .code yX8_street cX8_street 5 (some .int) :: ([.fieldLink RX8 52 "TestHall" "streets" "LTestHall$Streets;", .methodLink RX8 211 yX3_add, .instanceMethod yX3_add, .selects RX3 yX3_add yX3_add, .initialized RX3, .code yX3_add cX3_add 5 (some .int), .fieldLink RX3 46 "TestHall$Streets" "size" "I", .fieldLink RX3 11 "TestHall$Streets" "ends" "[I", .fieldLink RX3 15 "TestHall$Streets" "otherEnds" "[I", .fieldLink RX3 18 "TestHall$Streets" "minutesOf" "[I", .fieldLink RX3 21 "TestHall$Streets" "marksOf" "[I", .methodLink RX3 42 yX3_hasRoomAt, .instanceMethod yX3_hasRoomAt, .selects RX3 yX3_hasRoomAt yX3_hasRoomAt, .code yX3_hasRoomAt cX3_hasRoomAt 2 (some .boolean), .fieldLink RX3 33 "TestHall$Streets" "sizeAt" "[I", .static yX8_isWithin, .initialized RX8, .code yX8_isWithin cX8_isWithin 3 (some .boolean), .methodLink RX3 54 yX3_putAt, .instanceMethod yX3_putAt, .selects RX3 yX3_putAt yX3_putAt, .code yX3_putAt cX3_putAt 3 none, .fieldLink RX3 30 "TestHall$Streets" "streetsAt" "[[I"] ++ wsX80 ++ wsX30)
def wsX8_close : List Cond := .code yX8_close cX8_close 3 (some .boolean) :: ([.fieldLink RX8 52 "TestHall" "streets" "LTestHall$Streets;", .methodLink RX8 214 yX3_setClosed, .instanceMethod yX3_setClosed, .selects RX3 yX3_setClosed yX3_setClosed, .initialized RX3, .code yX3_setClosed cX3_setClosed 3 (some .boolean), .fieldLink RX3 46 "TestHall$Streets" "size" "I", .fieldLink RX3 24 "TestHall$Streets" "closed" "[Z", .static yX8_isWithin, .initialized RX8, .code yX8_isWithin cX8_isWithin 3 (some .boolean)] ++ wsX80 ++ wsX30)
def wsX8_routes_r1 : List Cond := [Cond.fieldLink RX8 52 "TestHall" "streets" "LTestHall$Streets;", Cond.methodLink RX8 218 yX3_countRoutes, Cond.instanceMethod yX3_countRoutes, Cond.selects RX3 yX3_countRoutes yX3_countRoutes, Cond.initialized RX3, Cond.code yX3_countRoutes cX3_countRoutes 5 (some .int), Cond.fieldLink RX3 58 "TestHall$Streets" "least" "I", Cond.fieldLink RX3 61 "TestHall$Streets" "most" "I", Cond.fieldLink RX3 64 "TestHall$Streets" "wanted" "I", Cond.fieldLink RX3 71 "TestHall$Streets" "found" "I", Cond.static yX8_isWithin, Cond.initialized RX8, Cond.code yX8_isWithin cX8_isWithin 3 (some .boolean), Cond.methodLink RX3 67 yX3_search, Cond.instanceMethod yX3_search, Cond.selects RX3 yX3_search yX3_search, Cond.code yX3_search cX3_search 2 none, Cond.fieldLink RX3 93 "TestHall$Streets" "target" "I", Cond.methodLink RX3 96 yX3_walk, Cond.instanceMethod yX3_walk, Cond.selects RX3 yX3_walk yX3_walk, Cond.code yX3_walk cX3_walk 12 (some .boolean), Cond.fieldLink RX3 33 "TestHall$Streets" "sizeAt" "[I", Cond.fieldLink RX3 30 "TestHall$Streets" "streetsAt" "[[I"]
def wsX8_routes_r2 : List Cond := [Cond.fieldLink RX3 24 "TestHall$Streets" "closed" "[Z", Cond.fieldLink RX3 36 "TestHall$Streets" "path" "[I", Cond.fieldLink RX3 11 "TestHall$Streets" "ends" "[I", Cond.fieldLink RX3 15 "TestHall$Streets" "otherEnds" "[I", Cond.fieldLink RX3 18 "TestHall$Streets" "minutesOf" "[I", Cond.fieldLink RX3 21 "TestHall$Streets" "marksOf" "[I", Cond.methodLink RX3 100 yX3_isTarget, Cond.instanceMethod yX3_isTarget, Cond.selects RX3 yX3_isTarget yX3_isTarget, Cond.code yX3_isTarget cX3_isTarget 4 (some .boolean), Cond.fieldLink RX3 84 "TestHall$Streets" "foundParts" "I", Cond.fieldLink RX3 90 "TestHall$Streets" "foundMinutes" "I"]
def wsX8_routes : List Cond := .code yX8_routes cX8_routes 4 (some .int) :: ((wsX8_routes_r1 ++ wsX8_routes_r2) ++ wsX80 ++ wsX30)
def wsX8_route_r1 : List Cond := [Cond.fieldLink RX8 52 "TestHall" "streets" "LTestHall$Streets;", Cond.methodLink RX8 221 yX3_draw, Cond.instanceMethod yX3_draw, Cond.selects RX3 yX3_draw yX3_draw, Cond.initialized RX3, Cond.code yX3_draw cX3_draw 6 (some .int), Cond.fieldLink RX3 36 "TestHall$Streets" "path" "[I", Cond.fieldLink RX3 39 "TestHall$Streets" "drawn" "[I", Cond.methodLink RX3 78 arraycopyName, Cond.native arraycopyName, Cond.static arraycopyName, Cond.initialized "java/lang/System", Cond.fieldLink RX3 84 "TestHall$Streets" "foundParts" "I", Cond.fieldLink RX3 87 "TestHall$Streets" "drawnParts" "I", Cond.fieldLink RX3 90 "TestHall$Streets" "foundMinutes" "I", Cond.methodLink RX3 74 yX3_countRoutes, Cond.instanceMethod yX3_countRoutes, Cond.selects RX3 yX3_countRoutes yX3_countRoutes, Cond.code yX3_countRoutes cX3_countRoutes 5 (some .int), Cond.fieldLink RX3 58 "TestHall$Streets" "least" "I", Cond.fieldLink RX3 61 "TestHall$Streets" "most" "I", Cond.fieldLink RX3 64 "TestHall$Streets" "wanted" "I", Cond.fieldLink RX3 71 "TestHall$Streets" "found" "I", Cond.static yX8_isWithin]
def wsX8_route_r2 : List Cond := [Cond.initialized RX8, Cond.code yX8_isWithin cX8_isWithin 3 (some .boolean), Cond.methodLink RX3 67 yX3_search, Cond.instanceMethod yX3_search, Cond.selects RX3 yX3_search yX3_search, Cond.code yX3_search cX3_search 2 none, Cond.fieldLink RX3 93 "TestHall$Streets" "target" "I", Cond.methodLink RX3 96 yX3_walk, Cond.instanceMethod yX3_walk, Cond.selects RX3 yX3_walk yX3_walk, Cond.code yX3_walk cX3_walk 12 (some .boolean), Cond.fieldLink RX3 33 "TestHall$Streets" "sizeAt" "[I", Cond.fieldLink RX3 30 "TestHall$Streets" "streetsAt" "[[I", Cond.fieldLink RX3 24 "TestHall$Streets" "closed" "[Z", Cond.fieldLink RX3 11 "TestHall$Streets" "ends" "[I", Cond.fieldLink RX3 15 "TestHall$Streets" "otherEnds" "[I", Cond.fieldLink RX3 18 "TestHall$Streets" "minutesOf" "[I", Cond.fieldLink RX3 21 "TestHall$Streets" "marksOf" "[I", Cond.methodLink RX3 100 yX3_isTarget, Cond.instanceMethod yX3_isTarget, Cond.selects RX3 yX3_isTarget yX3_isTarget, Cond.code yX3_isTarget cX3_isTarget 4 (some .boolean)]
def wsX8_route : List Cond := .code yX8_route cX8_route 5 (some .int) :: ((wsX8_route_r1 ++ wsX8_route_r2) ++ wsX80 ++ wsX30)
def wsX8_part : List Cond := .code yX8_part cX8_part 2 (some .int) :: ([.fieldLink RX8 52 "TestHall" "streets" "LTestHall$Streets;", .methodLink RX8 224 yX3_drawnStreet, .instanceMethod yX3_drawnStreet, .selects RX3 yX3_drawnStreet yX3_drawnStreet, .initialized RX3, .code yX3_drawnStreet cX3_drawnStreet 2 (some .int), .fieldLink RX3 87 "TestHall$Streets" "drawnParts" "I", .fieldLink RX3 39 "TestHall$Streets" "drawn" "[I", .static yX8_isWithin, .initialized RX8, .code yX8_isWithin cX8_isWithin 3 (some .boolean)] ++ wsX80 ++ wsX30)
def wsX8_differs_r1 : List Cond := [Cond.fieldLink RX8 12 "TestHall" "calendar" "LTestHall$Calendar;", Cond.methodLink RX8 72 yX0_isExaminer, Cond.instanceMethod yX0_isExaminer, Cond.selects RX0 yX0_isExaminer yX0_isExaminer, Cond.initialized RX0, Cond.code yX0_isExaminer cX0_isExaminer 2 (some .boolean), Cond.fieldLink RX0 34 "TestHall$Calendar" "examiners" "I", Cond.methodLink RX8 76 yX8_isWithin, Cond.static yX8_isWithin, Cond.initialized RX8, Cond.code yX8_isWithin cX8_isWithin 3 (some .boolean), Cond.methodLink RX8 227 yX0_difference, Cond.instanceMethod yX0_difference, Cond.selects RX0 yX0_difference yX0_difference, Cond.code yX0_difference cX0_difference 15 (some .int), Cond.fieldLink RX0 91 "TestHall$Calendar" "allTests" "I", Cond.fieldLink RX0 94 "TestHall$Calendar" "allPasses" "I", Cond.constantLong RX0 103 (100), Cond.methodLink RX0 97 yX0_testsOf, Cond.instanceMethod yX0_testsOf, Cond.selects RX0 yX0_testsOf yX0_testsOf, Cond.code yX0_testsOf cX0_testsOf 2 (some .int), Cond.fieldLink RX0 22 "TestHall$Calendar" "tests" "[I", Cond.methodLink RX0 38 yX0_isExaminer]
def wsX8_differs_r2 : List Cond := [Cond.methodLink RX0 100 yX0_passesOf, Cond.instanceMethod yX0_passesOf, Cond.selects RX0 yX0_passesOf yX0_passesOf, Cond.code yX0_passesOf cX0_passesOf 2 (some .int), Cond.fieldLink RX0 25 "TestHall$Calendar" "passes" "[I"]
def wsX8_differs : List Cond := .code yX8_differs cX8_differs 3 (some .int) :: ((wsX8_differs_r1 ++ wsX8_differs_r2) ++ wsX80 ++ wsX00)
def wsX8_countOfState : List Cond := .code yX8_countOfState cX8_countOfState 4 (some .int) :: ([.fieldLink RX8 64 "TestHall" "learnerCount" "I", .fieldLink RX8 18 "TestHall" "learners" "[LTestHall$Learner;", .fieldLink RX8 140 "TestHall$Learner" "state" "I"] ++ wsX80 ++ wsX10)
def wsX8_count : List Cond := .code yX8_count cX8_count 2 (some .int) :: ([.fieldLink RX8 12 "TestHall" "calendar" "LTestHall$Calendar;", .fieldLink RX8 231 "TestHall$Calendar" "examiners" "I", .fieldLink RX8 64 "TestHall" "learnerCount" "I", .fieldLink RX8 80 "TestHall$Calendar" "now" "I", .fieldLink RX8 57 "TestHall" "order" "LTestHall$Text;", .fieldLink RX8 237 "TestHall$Text" "lines" "I", .fieldLink RX8 38 "TestHall" "tape" "LTestHall$Tape;", .fieldLink RX8 123 "TestHall$Tape" "length" "I", .fieldLink RX8 52 "TestHall" "streets" "LTestHall$Streets;", .fieldLink RX8 240 "TestHall$Streets" "size" "I", .fieldLink RX8 241 "TestHall$Calendar" "allTests" "I", .methodLink RX8 234 yX8_countOfState, .instanceMethod yX8_countOfState, .selects RX8 yX8_countOfState yX8_countOfState, .initialized RX8, .code yX8_countOfState cX8_countOfState 4 (some .int), .fieldLink RX8 18 "TestHall" "learners" "[LTestHall$Learner;", .fieldLink RX8 140 "TestHall$Learner" "state" "I"] ++ wsX80 ++ wsX00 ++ wsX50 ++ wsX40 ++ wsX30 ++ wsX10)
def wsX8_countBookedWith : List Cond := .code yX8_countBookedWith cX8_countBookedWith 4 (some .int) :: ([.fieldLink RX8 64 "TestHall" "learnerCount" "I", .fieldLink RX8 18 "TestHall" "learners" "[LTestHall$Learner;", .fieldLink RX8 140 "TestHall$Learner" "state" "I", .fieldLink RX8 143 "TestHall$Learner" "slot" "I", .methodLink RX8 176 yX8_examinerOf, .static yX8_examinerOf, .initialized RX8, .code yX8_examinerOf cX8_examinerOf 1 (some .int)] ++ wsX80 ++ wsX10)
def wsX8_load_r1 : List Cond := [Cond.fieldLink RX8 12 "TestHall" "calendar" "LTestHall$Calendar;", Cond.methodLink RX8 72 yX0_isExaminer, Cond.instanceMethod yX0_isExaminer, Cond.selects RX0 yX0_isExaminer yX0_isExaminer, Cond.initialized RX0, Cond.code yX0_isExaminer cX0_isExaminer 2 (some .boolean), Cond.fieldLink RX0 34 "TestHall$Calendar" "examiners" "I", Cond.methodLink RX8 244 yX0_testsOf, Cond.instanceMethod yX0_testsOf, Cond.selects RX0 yX0_testsOf yX0_testsOf, Cond.code yX0_testsOf cX0_testsOf 2 (some .int), Cond.fieldLink RX0 22 "TestHall$Calendar" "tests" "[I", Cond.methodLink RX0 38 yX0_isExaminer, Cond.methodLink RX8 247 yX0_passesOf, Cond.instanceMethod yX0_passesOf, Cond.selects RX0 yX0_passesOf yX0_passesOf, Cond.code yX0_passesOf cX0_passesOf 2 (some .int), Cond.fieldLink RX0 25 "TestHall$Calendar" "passes" "[I", Cond.methodLink RX8 250 yX8_countBookedWith, Cond.instanceMethod yX8_countBookedWith, Cond.selects RX8 yX8_countBookedWith yX8_countBookedWith, Cond.initialized RX8, Cond.code yX8_countBookedWith cX8_countBookedWith 4 (some .int), Cond.fieldLink RX8 64 "TestHall" "learnerCount" "I"]
def wsX8_load_r2 : List Cond := [Cond.fieldLink RX8 18 "TestHall" "learners" "[LTestHall$Learner;", Cond.fieldLink RX8 140 "TestHall$Learner" "state" "I", Cond.fieldLink RX8 143 "TestHall$Learner" "slot" "I", Cond.methodLink RX8 176 yX8_examinerOf, Cond.static yX8_examinerOf, Cond.code yX8_examinerOf cX8_examinerOf 1 (some .int)]
def wsX8_load : List Cond := .code yX8_load cX8_load 3 (some .int) :: ((wsX8_load_r1 ++ wsX8_load_r2) ++ wsX80 ++ wsX00 ++ wsX10)
def wsX9_thrown : List Cond := .code yX9_thrown cX9_thrown 1 (some .int) :: ([.fieldLink RX9 1 "TestHallModel" "thrown" "I"] ++ wsX90)
def wsX9_lay : List Cond := .code yX9_lay cX9_lay 5 none :: ([.fieldLink RX9 11 "TestHallModel" "taped" "I", .fieldLink RX9 14 "TestHallModel" "tape" "[I"] ++ wsX90)
def wsX9_feed : List Cond := .code yX9_feed cX9_feed 7 (some .int) :: ([.fieldLink RX9 1 "TestHallModel" "thrown" "I", .fieldLink RX9 11 "TestHallModel" "taped" "I", .methodLink RX9 7 yX9_lay, .instanceMethod yX9_lay, .selects RX9 yX9_lay yX9_lay, .initialized RX9, .code yX9_lay cX9_lay 5 none, .fieldLink RX9 14 "TestHallModel" "tape" "[I"] ++ wsX90)
def wsX9_init_r1 : List Cond := [Cond.methodLink RX9 18 objectInit, Cond.instanceMethod objectInit, Cond.code objectInit ⟨#[0xb1]⟩ 1 none, Cond.arrayClass .int, Cond.fieldLink RX9 14 "TestHallModel" "tape" "[I", Cond.fieldLink RX9 24 "TestHallModel" "sort" "[I", Cond.fieldLink RX9 27 "TestHallModel" "place" "[I", Cond.arrayClass .long, Cond.fieldLink RX9 30 "TestHallModel" "value" "[J", Cond.constantLong RX9 34 (11726208), Cond.constantLong RX9 36 (1176170), Cond.constantLong RX9 38 (1891), Cond.constantLong RX9 40 (983628), Cond.constantLong RX9 42 (1034460), Cond.constantLong RX9 44 (43169436), Cond.constantLong RX9 46 (38407499), Cond.constantLong RX9 48 (614923), Cond.constantLong RX9 50 (5538), Cond.fieldLink RX9 52 "TestHallModel" "words" "[J", Cond.fieldLink RX9 55 "TestHallModel" "lines" "[I", Cond.fieldLink RX9 58 "TestHallModel" "lineN" "[I", Cond.fieldLink RX9 61 "TestHallModel" "lineAt" "[I", Cond.fieldLink RX9 64 "TestHallModel" "op" "[I", Cond.fieldLink RX9 67 "TestHallModel" "one" "[I"]
def wsX9_init_r2 : List Cond := [Cond.fieldLink RX9 70 "TestHallModel" "sumWaits" "[I", Cond.fieldLink RX9 73 "TestHallModel" "signWaits" "[I", Cond.fieldLink RX9 76 "TestHallModel" "andWaits" "[I", Cond.fieldLink RX9 79 "TestHallModel" "known" "[I", Cond.fieldLink RX9 82 "TestHallModel" "pile" "[I", Cond.fieldLink RX9 85 "TestHallModel" "town" "[I", Cond.arrayClass .boolean, Cond.fieldLink RX9 88 "TestHallModel" "isShut" "[Z", Cond.fieldLink RX9 92 "TestHallModel" "tests" "[I", Cond.fieldLink RX9 95 "TestHallModel" "passes" "[I", Cond.fieldLink RX9 98 "TestHallModel" "home" "[I", Cond.fieldLink RX9 101 "TestHallModel" "kind" "[I", Cond.fieldLink RX9 104 "TestHallModel" "from" "[I", Cond.fieldLink RX9 107 "TestHallModel" "to" "[I", Cond.fieldLink RX9 110 "TestHallModel" "wish" "[I", Cond.fieldLink RX9 113 "TestHallModel" "isSooner" "[Z", Cond.fieldLink RX9 116 "TestHallModel" "came" "[I", Cond.fieldLink RX9 119 "TestHallModel" "state" "[I", Cond.fieldLink RX9 122 "TestHallModel" "slot" "[I", Cond.fieldLink RX9 125 "TestHallModel" "tries" "[I", Cond.fieldLink RX9 128 "TestHallModel" "ups" "[I", Cond.fieldLink RX9 131 "TestHallModel" "rank" "[I", Cond.fieldLink RX9 134 "TestHallModel" "isDealt" "[Z", Cond.fieldLink RX9 137 "TestHallModel" "endA" "[I"]
def wsX9_init_r3 : List Cond := [Cond.fieldLink RX9 140 "TestHallModel" "endB" "[I", Cond.fieldLink RX9 143 "TestHallModel" "minutes" "[I", Cond.fieldLink RX9 146 "TestHallModel" "marks" "[I", Cond.fieldLink RX9 149 "TestHallModel" "isClosed" "[Z", Cond.fieldLink RX9 152 "TestHallModel" "isGone" "[Z", Cond.fieldLink RX9 155 "TestHallModel" "way" "[I", Cond.fieldLink RX9 158 "TestHallModel" "drawn" "[I"]
def wsX9_init : List Cond := .code yX9_init cX9_init 2 none :: ((wsX9_init_r1 ++ (wsX9_init_r2 ++ wsX9_init_r3)) ++ wsX90)
def wsX9_isLetter : List Cond := .code yX9_isLetter cX9_isLetter 1 (some .boolean) :: ([])
def wsX9_isDigit : List Cond := .code yX9_isDigit cX9_isDigit 1 (some .boolean) :: ([])
def wsX9_rank : List Cond := .code yX9_rank cX9_rank 1 (some .int) :: ([.methodLink RX9 161 yX9_isLetter, .static yX9_isLetter, .initialized RX9, .code yX9_isLetter cX9_isLetter 1 (some .boolean)])
def wsX9_isSignOf : List Cond := .code yX9_isSignOf cX9_isSignOf 1 (some .boolean) :: ([])
def wsX9_cutAll : List Cond := .code yX9_cutAll cX9_cutAll 7 none :: ([.fieldLink RX9 11 "TestHallModel" "taped" "I", .fieldLink RX9 165 "TestHallModel" "size" "I", .fieldLink RX9 14 "TestHallModel" "tape" "[I", .fieldLink RX9 27 "TestHallModel" "place" "[I", .constantLong RX9 168 (37), .fieldLink RX9 24 "TestHallModel" "sort" "[I", .constantLong RX9 176 (10), .constantLong RX9 178 (48), .fieldLink RX9 30 "TestHallModel" "value" "[J", .fieldLink RX9 183 "TestHallModel" "at" "I", .fieldLink RX9 186 "TestHallModel" "fault" "I", .methodLink RX9 161 yX9_isLetter, .static yX9_isLetter, .initialized RX9, .code yX9_isLetter cX9_isLetter 1 (some .boolean), .methodLink RX9 170 yX9_rank, .static yX9_rank, .code yX9_rank cX9_rank 1 (some .int), .methodLink RX9 173 yX9_isDigit, .static yX9_isDigit, .code yX9_isDigit cX9_isDigit 1 (some .boolean), .methodLink RX9 180 yX9_isSignOf, .static yX9_isSignOf, .code yX9_isSignOf cX9_isSignOf 1 (some .boolean)] ++ wsX90)
def wsX9_wrong : List Cond := .code yX9_wrong cX9_wrong 2 none :: ([.fieldLink RX9 186 "TestHallModel" "fault" "I", .fieldLink RX9 27 "TestHallModel" "place" "[I", .fieldLink RX9 183 "TestHallModel" "at" "I"] ++ wsX90)
def wsX9_isSign : List Cond := .code yX9_isSign cX9_isSign 2 (some .boolean) :: ([.fieldLink RX9 186 "TestHallModel" "fault" "I", .fieldLink RX9 24 "TestHallModel" "sort" "[I", .fieldLink RX9 183 "TestHallModel" "at" "I", .fieldLink RX9 30 "TestHallModel" "value" "[J"] ++ wsX90)
def wsX9_isWord : List Cond := .code yX9_isWord cX9_isWord 2 (some .boolean) :: ([.fieldLink RX9 186 "TestHallModel" "fault" "I", .fieldLink RX9 24 "TestHallModel" "sort" "[I", .fieldLink RX9 183 "TestHallModel" "at" "I", .fieldLink RX9 30 "TestHallModel" "value" "[J", .fieldLink RX9 52 "TestHallModel" "words" "[J"] ++ wsX90)
def wsX9_takeSign : List Cond := .code yX9_takeSign cX9_takeSign 2 none :: ([.fieldLink RX9 183 "TestHallModel" "at" "I", .methodLink RX9 189 yX9_isSign, .instanceMethod yX9_isSign, .selects RX9 yX9_isSign yX9_isSign, .initialized RX9, .code yX9_isSign cX9_isSign 2 (some .boolean), .fieldLink RX9 186 "TestHallModel" "fault" "I", .fieldLink RX9 24 "TestHallModel" "sort" "[I", .fieldLink RX9 30 "TestHallModel" "value" "[J", .methodLink RX9 192 yX9_wrong, .instanceMethod yX9_wrong, .selects RX9 yX9_wrong yX9_wrong, .code yX9_wrong cX9_wrong 2 none, .fieldLink RX9 27 "TestHallModel" "place" "[I"] ++ wsX90)
def wsX9_hasSign : List Cond := .code yX9_hasSign cX9_hasSign 3 (some .boolean) :: ([.fieldLink RX9 183 "TestHallModel" "at" "I", .methodLink RX9 189 yX9_isSign, .instanceMethod yX9_isSign, .selects RX9 yX9_isSign yX9_isSign, .initialized RX9, .code yX9_isSign cX9_isSign 2 (some .boolean), .fieldLink RX9 186 "TestHallModel" "fault" "I", .fieldLink RX9 24 "TestHallModel" "sort" "[I", .fieldLink RX9 30 "TestHallModel" "value" "[J"] ++ wsX90)
def wsX9_hasWord : List Cond := .code yX9_hasWord cX9_hasWord 3 (some .boolean) :: ([.fieldLink RX9 183 "TestHallModel" "at" "I", .methodLink RX9 196 yX9_isWord, .instanceMethod yX9_isWord, .selects RX9 yX9_isWord yX9_isWord, .initialized RX9, .code yX9_isWord cX9_isWord 2 (some .boolean), .fieldLink RX9 186 "TestHallModel" "fault" "I", .fieldLink RX9 24 "TestHallModel" "sort" "[I", .fieldLink RX9 30 "TestHallModel" "value" "[J", .fieldLink RX9 52 "TestHallModel" "words" "[J"] ++ wsX90)
def wsX9_takeWord : List Cond := .code yX9_takeWord cX9_takeWord 2 none :: ([.methodLink RX9 199 yX9_hasWord, .instanceMethod yX9_hasWord, .selects RX9 yX9_hasWord yX9_hasWord, .initialized RX9, .code yX9_hasWord cX9_hasWord 3 (some .boolean), .fieldLink RX9 183 "TestHallModel" "at" "I", .methodLink RX9 196 yX9_isWord, .instanceMethod yX9_isWord, .selects RX9 yX9_isWord yX9_isWord, .code yX9_isWord cX9_isWord 2 (some .boolean), .fieldLink RX9 186 "TestHallModel" "fault" "I", .fieldLink RX9 24 "TestHallModel" "sort" "[I", .fieldLink RX9 30 "TestHallModel" "value" "[J", .fieldLink RX9 52 "TestHallModel" "words" "[J", .methodLink RX9 192 yX9_wrong, .instanceMethod yX9_wrong, .selects RX9 yX9_wrong yX9_wrong, .code yX9_wrong cX9_wrong 2 none, .fieldLink RX9 27 "TestHallModel" "place" "[I"] ++ wsX90)
def wsX9_emit : List Cond := .code yX9_emit cX9_emit 3 none :: ([.fieldLink RX9 64 "TestHallModel" "op" "[I", .fieldLink RX9 202 "TestHallModel" "next" "I", .fieldLink RX9 205 "TestHallModel" "codes" "I", .fieldLink RX9 67 "TestHallModel" "one" "[I"] ++ wsX90)
def wsX9_opens : List Cond := .code yX9_opens cX9_opens 1 none :: ([.fieldLink RX9 70 "TestHallModel" "sumWaits" "[I", .fieldLink RX9 222 "TestHallModel" "deep" "I", .fieldLink RX9 73 "TestHallModel" "signWaits" "[I", .fieldLink RX9 76 "TestHallModel" "andWaits" "[I"] ++ wsX90)
def wsX9_partWord : List Cond := .code yX9_partWord cX9_partWord 2 (some .int) :: ([.methodLink RX9 196 yX9_isWord, .instanceMethod yX9_isWord, .selects RX9 yX9_isWord yX9_isWord, .initialized RX9, .code yX9_isWord cX9_isWord 2 (some .boolean), .fieldLink RX9 186 "TestHallModel" "fault" "I", .fieldLink RX9 24 "TestHallModel" "sort" "[I", .fieldLink RX9 183 "TestHallModel" "at" "I", .fieldLink RX9 30 "TestHallModel" "value" "[J", .fieldLink RX9 52 "TestHallModel" "words" "[J"] ++ wsX90)
def wsX9_part_r1 : List Cond := [Cond.fieldLink RX9 186 "TestHallModel" "fault" "I", Cond.fieldLink RX9 24 "TestHallModel" "sort" "[I", Cond.fieldLink RX9 183 "TestHallModel" "at" "I", Cond.fieldLink RX9 222 "TestHallModel" "deep" "I", Cond.fieldLink RX9 30 "TestHallModel" "value" "[J", Cond.methodLink RX9 242 yX9_partWord, Cond.instanceMethod yX9_partWord, Cond.selects RX9 yX9_partWord yX9_partWord, Cond.initialized RX9, Cond.code yX9_partWord cX9_partWord 2 (some .int), Cond.methodLink RX9 196 yX9_isWord, Cond.instanceMethod yX9_isWord, Cond.selects RX9 yX9_isWord yX9_isWord, Cond.code yX9_isWord cX9_isWord 2 (some .boolean), Cond.fieldLink RX9 52 "TestHallModel" "words" "[J", Cond.methodLink RX9 189 yX9_isSign, Cond.instanceMethod yX9_isSign, Cond.selects RX9 yX9_isSign yX9_isSign, Cond.code yX9_isSign cX9_isSign 2 (some .boolean), Cond.methodLink RX9 192 yX9_wrong, Cond.instanceMethod yX9_wrong, Cond.selects RX9 yX9_wrong yX9_wrong, Cond.code yX9_wrong cX9_wrong 2 none, Cond.fieldLink RX9 27 "TestHallModel" "place" "[I"]
def wsX9_part_r2 : List Cond := [Cond.methodLink RX9 246 yX9_hasSign, Cond.instanceMethod yX9_hasSign, Cond.selects RX9 yX9_hasSign yX9_hasSign, Cond.code yX9_hasSign cX9_hasSign 3 (some .boolean), Cond.methodLink RX9 225 yX9_opens, Cond.instanceMethod yX9_opens, Cond.selects RX9 yX9_opens yX9_opens, Cond.code yX9_opens cX9_opens 1 none, Cond.fieldLink RX9 70 "TestHallModel" "sumWaits" "[I", Cond.fieldLink RX9 73 "TestHallModel" "signWaits" "[I", Cond.fieldLink RX9 76 "TestHallModel" "andWaits" "[I", Cond.methodLink RX9 235 yX9_emit, Cond.instanceMethod yX9_emit, Cond.selects RX9 yX9_emit yX9_emit, Cond.code yX9_emit cX9_emit 3 none, Cond.fieldLink RX9 64 "TestHallModel" "op" "[I", Cond.fieldLink RX9 202 "TestHallModel" "next" "I", Cond.fieldLink RX9 205 "TestHallModel" "codes" "I", Cond.fieldLink RX9 67 "TestHallModel" "one" "[I"]
def wsX9_part : List Cond := .code yX9_part cX9_part 2 (some .boolean) :: ((wsX9_part_r1 ++ wsX9_part_r2) ++ wsX90)
def wsX9_goesOnBehind_r1 : List Cond := [Cond.fieldLink RX9 186 "TestHallModel" "fault" "I", Cond.fieldLink RX9 70 "TestHallModel" "sumWaits" "[I", Cond.fieldLink RX9 222 "TestHallModel" "deep" "I", Cond.fieldLink RX9 183 "TestHallModel" "at" "I", Cond.fieldLink RX9 73 "TestHallModel" "signWaits" "[I", Cond.fieldLink RX9 76 "TestHallModel" "andWaits" "[I", Cond.methodLink RX9 235 yX9_emit, Cond.instanceMethod yX9_emit, Cond.selects RX9 yX9_emit yX9_emit, Cond.initialized RX9, Cond.code yX9_emit cX9_emit 3 none, Cond.fieldLink RX9 64 "TestHallModel" "op" "[I", Cond.fieldLink RX9 202 "TestHallModel" "next" "I", Cond.fieldLink RX9 205 "TestHallModel" "codes" "I", Cond.fieldLink RX9 67 "TestHallModel" "one" "[I", Cond.methodLink RX9 189 yX9_isSign, Cond.instanceMethod yX9_isSign, Cond.selects RX9 yX9_isSign yX9_isSign, Cond.code yX9_isSign cX9_isSign 2 (some .boolean), Cond.fieldLink RX9 24 "TestHallModel" "sort" "[I", Cond.fieldLink RX9 30 "TestHallModel" "value" "[J", Cond.methodLink RX9 196 yX9_isWord, Cond.instanceMethod yX9_isWord, Cond.selects RX9 yX9_isWord yX9_isWord]
def wsX9_goesOnBehind_r2 : List Cond := [Cond.code yX9_isWord cX9_isWord 2 (some .boolean), Cond.fieldLink RX9 52 "TestHallModel" "words" "[J", Cond.methodLink RX9 239 yX9_takeSign, Cond.instanceMethod yX9_takeSign, Cond.selects RX9 yX9_takeSign yX9_takeSign, Cond.code yX9_takeSign cX9_takeSign 2 none, Cond.methodLink RX9 192 yX9_wrong, Cond.instanceMethod yX9_wrong, Cond.selects RX9 yX9_wrong yX9_wrong, Cond.code yX9_wrong cX9_wrong 2 none, Cond.fieldLink RX9 27 "TestHallModel" "place" "[I"]
def wsX9_goesOnBehind : List Cond := .code yX9_goesOnBehind cX9_goesOnBehind 1 (some .boolean) :: ((wsX9_goesOnBehind_r1 ++ wsX9_goesOnBehind_r2) ++ wsX90)
def wsX9_line_r1 : List Cond := [Cond.fieldLink RX9 55 "TestHallModel" "lines" "[I", Cond.fieldLink RX9 202 "TestHallModel" "next" "I", Cond.fieldLink RX9 186 "TestHallModel" "fault" "I", Cond.fieldLink RX9 183 "TestHallModel" "at" "I", Cond.fieldLink RX9 24 "TestHallModel" "sort" "[I", Cond.fieldLink RX9 30 "TestHallModel" "value" "[J", Cond.constantLong RX9 217 (99), Cond.fieldLink RX9 58 "TestHallModel" "lineN" "[I", Cond.fieldLink RX9 61 "TestHallModel" "lineAt" "[I", Cond.fieldLink RX9 205 "TestHallModel" "codes" "I", Cond.fieldLink RX9 222 "TestHallModel" "deep" "I", Cond.methodLink RX9 196 yX9_isWord, Cond.instanceMethod yX9_isWord, Cond.selects RX9 yX9_isWord yX9_isWord, Cond.initialized RX9, Cond.code yX9_isWord cX9_isWord 2 (some .boolean), Cond.fieldLink RX9 52 "TestHallModel" "words" "[J", Cond.methodLink RX9 192 yX9_wrong, Cond.instanceMethod yX9_wrong, Cond.selects RX9 yX9_wrong yX9_wrong, Cond.code yX9_wrong cX9_wrong 2 none, Cond.fieldLink RX9 27 "TestHallModel" "place" "[I", Cond.methodLink RX9 219 yX9_takeWord, Cond.instanceMethod yX9_takeWord]
def wsX9_line_r2 : List Cond := [Cond.selects RX9 yX9_takeWord yX9_takeWord, Cond.code yX9_takeWord cX9_takeWord 2 none, Cond.methodLink RX9 199 yX9_hasWord, Cond.instanceMethod yX9_hasWord, Cond.selects RX9 yX9_hasWord yX9_hasWord, Cond.code yX9_hasWord cX9_hasWord 3 (some .boolean), Cond.methodLink RX9 225 yX9_opens, Cond.instanceMethod yX9_opens, Cond.selects RX9 yX9_opens yX9_opens, Cond.code yX9_opens cX9_opens 1 none, Cond.fieldLink RX9 70 "TestHallModel" "sumWaits" "[I", Cond.fieldLink RX9 73 "TestHallModel" "signWaits" "[I", Cond.fieldLink RX9 76 "TestHallModel" "andWaits" "[I", Cond.methodLink RX9 228 yX9_part, Cond.instanceMethod yX9_part, Cond.selects RX9 yX9_part yX9_part, Cond.code yX9_part cX9_part 2 (some .boolean), Cond.methodLink RX9 242 yX9_partWord, Cond.instanceMethod yX9_partWord, Cond.selects RX9 yX9_partWord yX9_partWord, Cond.code yX9_partWord cX9_partWord 2 (some .int), Cond.methodLink RX9 189 yX9_isSign, Cond.instanceMethod yX9_isSign, Cond.selects RX9 yX9_isSign yX9_isSign]
def wsX9_line_r3 : List Cond := [Cond.code yX9_isSign cX9_isSign 2 (some .boolean), Cond.methodLink RX9 246 yX9_hasSign, Cond.instanceMethod yX9_hasSign, Cond.selects RX9 yX9_hasSign yX9_hasSign, Cond.code yX9_hasSign cX9_hasSign 3 (some .boolean), Cond.methodLink RX9 235 yX9_emit, Cond.instanceMethod yX9_emit, Cond.selects RX9 yX9_emit yX9_emit, Cond.code yX9_emit cX9_emit 3 none, Cond.fieldLink RX9 64 "TestHallModel" "op" "[I", Cond.fieldLink RX9 67 "TestHallModel" "one" "[I", Cond.methodLink RX9 232 yX9_goesOnBehind, Cond.instanceMethod yX9_goesOnBehind, Cond.selects RX9 yX9_goesOnBehind yX9_goesOnBehind, Cond.code yX9_goesOnBehind cX9_goesOnBehind 1 (some .boolean), Cond.methodLink RX9 239 yX9_takeSign, Cond.instanceMethod yX9_takeSign, Cond.selects RX9 yX9_takeSign yX9_takeSign, Cond.code yX9_takeSign cX9_takeSign 2 none]
def wsX9_line : List Cond := .code yX9_line cX9_line 3 none :: ((wsX9_line_r1 ++ (wsX9_line_r2 ++ wsX9_line_r3)) ++ wsX90)
def wsX9_text_r1 : List Cond := [Cond.fieldLink RX9 1 "TestHallModel" "thrown" "I", Cond.fieldLink RX9 211 "TestHallModel" "holds" "I", Cond.fieldLink RX9 202 "TestHallModel" "next" "I", Cond.fieldLink RX9 55 "TestHallModel" "lines" "[I", Cond.fieldLink RX9 205 "TestHallModel" "codes" "I", Cond.fieldLink RX9 186 "TestHallModel" "fault" "I", Cond.fieldLink RX9 24 "TestHallModel" "sort" "[I", Cond.fieldLink RX9 183 "TestHallModel" "at" "I", Cond.methodLink RX9 208 yX9_cutAll, Cond.instanceMethod yX9_cutAll, Cond.selects RX9 yX9_cutAll yX9_cutAll, Cond.initialized RX9, Cond.code yX9_cutAll cX9_cutAll 7 none, Cond.fieldLink RX9 11 "TestHallModel" "taped" "I", Cond.fieldLink RX9 165 "TestHallModel" "size" "I", Cond.fieldLink RX9 14 "TestHallModel" "tape" "[I", Cond.fieldLink RX9 27 "TestHallModel" "place" "[I", Cond.constantLong RX9 168 (37), Cond.constantLong RX9 176 (10), Cond.constantLong RX9 178 (48), Cond.fieldLink RX9 30 "TestHallModel" "value" "[J", Cond.methodLink RX9 161 yX9_isLetter, Cond.static yX9_isLetter, Cond.code yX9_isLetter cX9_isLetter 1 (some .boolean)]
def wsX9_text_r2 : List Cond := [Cond.methodLink RX9 170 yX9_rank, Cond.static yX9_rank, Cond.code yX9_rank cX9_rank 1 (some .int), Cond.methodLink RX9 173 yX9_isDigit, Cond.static yX9_isDigit, Cond.code yX9_isDigit cX9_isDigit 1 (some .boolean), Cond.methodLink RX9 180 yX9_isSignOf, Cond.static yX9_isSignOf, Cond.code yX9_isSignOf cX9_isSignOf 1 (some .boolean), Cond.methodLink RX9 214 yX9_line, Cond.instanceMethod yX9_line, Cond.selects RX9 yX9_line yX9_line, Cond.code yX9_line cX9_line 3 none, Cond.constantLong RX9 217 (99), Cond.fieldLink RX9 58 "TestHallModel" "lineN" "[I", Cond.fieldLink RX9 61 "TestHallModel" "lineAt" "[I", Cond.fieldLink RX9 222 "TestHallModel" "deep" "I", Cond.methodLink RX9 196 yX9_isWord, Cond.instanceMethod yX9_isWord, Cond.selects RX9 yX9_isWord yX9_isWord, Cond.code yX9_isWord cX9_isWord 2 (some .boolean), Cond.fieldLink RX9 52 "TestHallModel" "words" "[J", Cond.methodLink RX9 192 yX9_wrong, Cond.instanceMethod yX9_wrong]
def wsX9_text_r3 : List Cond := [Cond.selects RX9 yX9_wrong yX9_wrong, Cond.code yX9_wrong cX9_wrong 2 none, Cond.methodLink RX9 219 yX9_takeWord, Cond.instanceMethod yX9_takeWord, Cond.selects RX9 yX9_takeWord yX9_takeWord, Cond.code yX9_takeWord cX9_takeWord 2 none, Cond.methodLink RX9 199 yX9_hasWord, Cond.instanceMethod yX9_hasWord, Cond.selects RX9 yX9_hasWord yX9_hasWord, Cond.code yX9_hasWord cX9_hasWord 3 (some .boolean), Cond.methodLink RX9 225 yX9_opens, Cond.instanceMethod yX9_opens, Cond.selects RX9 yX9_opens yX9_opens, Cond.code yX9_opens cX9_opens 1 none, Cond.fieldLink RX9 70 "TestHallModel" "sumWaits" "[I", Cond.fieldLink RX9 73 "TestHallModel" "signWaits" "[I", Cond.fieldLink RX9 76 "TestHallModel" "andWaits" "[I", Cond.methodLink RX9 228 yX9_part, Cond.instanceMethod yX9_part, Cond.selects RX9 yX9_part yX9_part, Cond.code yX9_part cX9_part 2 (some .boolean), Cond.methodLink RX9 242 yX9_partWord, Cond.instanceMethod yX9_partWord, Cond.selects RX9 yX9_partWord yX9_partWord]
def wsX9_text_r4 : List Cond := [Cond.code yX9_partWord cX9_partWord 2 (some .int), Cond.methodLink RX9 189 yX9_isSign, Cond.instanceMethod yX9_isSign, Cond.selects RX9 yX9_isSign yX9_isSign, Cond.code yX9_isSign cX9_isSign 2 (some .boolean), Cond.methodLink RX9 246 yX9_hasSign, Cond.instanceMethod yX9_hasSign, Cond.selects RX9 yX9_hasSign yX9_hasSign, Cond.code yX9_hasSign cX9_hasSign 3 (some .boolean), Cond.methodLink RX9 235 yX9_emit, Cond.instanceMethod yX9_emit, Cond.selects RX9 yX9_emit yX9_emit, Cond.code yX9_emit cX9_emit 3 none, Cond.fieldLink RX9 64 "TestHallModel" "op" "[I", Cond.fieldLink RX9 67 "TestHallModel" "one" "[I", Cond.methodLink RX9 232 yX9_goesOnBehind, Cond.instanceMethod yX9_goesOnBehind, Cond.selects RX9 yX9_goesOnBehind yX9_goesOnBehind, Cond.code yX9_goesOnBehind cX9_goesOnBehind 1 (some .boolean), Cond.methodLink RX9 239 yX9_takeSign, Cond.instanceMethod yX9_takeSign, Cond.selects RX9 yX9_takeSign yX9_takeSign, Cond.code yX9_takeSign cX9_takeSign 2 none]
def wsX9_text : List Cond := .code yX9_text cX9_text 1 (some .int) :: ((wsX9_text_r1 ++ (wsX9_text_r2 ++ (wsX9_text_r3 ++ wsX9_text_r4))) ++ wsX90)
def wsX9_worth : List Cond := .code yX9_worth cX9_worth 7 (some .int) :: ([.fieldLink RX9 64 "TestHallModel" "op" "[I", .fieldLink RX9 82 "TestHallModel" "pile" "[I", .fieldLink RX9 67 "TestHallModel" "one" "[I", .fieldLink RX9 79 "TestHallModel" "known" "[I"] ++ wsX90)
def wsX9_examiner : List Cond := .code yX9_examiner cX9_examiner 1 (some .int) :: ([.fieldLink RX9 1 "TestHallModel" "thrown" "I", .fieldLink RX9 249 "TestHallModel" "examiners" "I"] ++ wsX90)
def wsX9_hasHour : List Cond := .code yX9_hasHour cX9_hasHour 6 (some .boolean) :: ([.fieldLink RX9 85 "TestHallModel" "town" "[I"] ++ wsX90)
def wsX9_isThere : List Cond := .code yX9_isThere cX9_isThere 2 (some .boolean) :: ([.methodLink RX9 252 yX9_hasHour, .instanceMethod yX9_hasHour, .selects RX9 yX9_hasHour yX9_hasHour, .initialized RX9, .code yX9_hasHour cX9_hasHour 6 (some .boolean), .fieldLink RX9 85 "TestHallModel" "town" "[I"] ++ wsX90)
def wsX9_learner : List Cond := .code yX9_learner cX9_learner 7 (some .int) :: ([.fieldLink RX9 1 "TestHallModel" "thrown" "I", .fieldLink RX9 256 "TestHallModel" "learners" "I", .fieldLink RX9 98 "TestHallModel" "home" "[I", .fieldLink RX9 101 "TestHallModel" "kind" "[I", .fieldLink RX9 104 "TestHallModel" "from" "[I", .fieldLink RX9 107 "TestHallModel" "to" "[I", .fieldLink RX9 110 "TestHallModel" "wish" "[I", .fieldLink RX9 113 "TestHallModel" "isSooner" "[Z", .fieldLink RX9 116 "TestHallModel" "came" "[I", .fieldLink RX9 259 "TestHallModel" "now" "I", .fieldLink RX9 119 "TestHallModel" "state" "[I", .fieldLink RX9 122 "TestHallModel" "slot" "[I"] ++ wsX90)
def wsX9_isLearner : List Cond := .code yX9_isLearner cX9_isLearner 2 (some .boolean) :: ([.fieldLink RX9 256 "TestHallModel" "learners" "I"] ++ wsX90)
def wsX9_bookedAt : List Cond := .code yX9_bookedAt cX9_bookedAt 4 (some .int) :: ([.fieldLink RX9 256 "TestHallModel" "learners" "I", .fieldLink RX9 119 "TestHallModel" "state" "[I", .fieldLink RX9 122 "TestHallModel" "slot" "[I"] ++ wsX90)
def wsX9_isFree : List Cond := .code yX9_isFree cX9_isFree 2 (some .boolean) :: ([.fieldLink RX9 259 "TestHallModel" "now" "I", .fieldLink RX9 88 "TestHallModel" "isShut" "[Z", .fieldLink RX9 249 "TestHallModel" "examiners" "I", .methodLink RX9 262 yX9_isThere, .instanceMethod yX9_isThere, .selects RX9 yX9_isThere yX9_isThere, .initialized RX9, .code yX9_isThere cX9_isThere 2 (some .boolean), .methodLink RX9 252 yX9_hasHour, .instanceMethod yX9_hasHour, .selects RX9 yX9_hasHour yX9_hasHour, .code yX9_hasHour cX9_hasHour 6 (some .boolean), .fieldLink RX9 85 "TestHallModel" "town" "[I", .methodLink RX9 265 yX9_bookedAt, .instanceMethod yX9_bookedAt, .selects RX9 yX9_bookedAt yX9_bookedAt, .code yX9_bookedAt cX9_bookedAt 4 (some .int), .fieldLink RX9 256 "TestHallModel" "learners" "I", .fieldLink RX9 119 "TestHallModel" "state" "[I", .fieldLink RX9 122 "TestHallModel" "slot" "[I"] ++ wsX90)
def wsX9_suits : List Cond := .code yX9_suits cX9_suits 4 (some .boolean) :: ([.fieldLink RX9 85 "TestHallModel" "town" "[I", .fieldLink RX9 98 "TestHallModel" "home" "[I", .fieldLink RX9 110 "TestHallModel" "wish" "[I", .fieldLink RX9 104 "TestHallModel" "from" "[I", .fieldLink RX9 107 "TestHallModel" "to" "[I"] ++ wsX90)
def wsX9_rankOf : List Cond := .code yX9_rankOf cX9_rankOf 3 (some .int) :: ([.fieldLink RX9 79 "TestHallModel" "known" "[I", .fieldLink RX9 101 "TestHallModel" "kind" "[I", .fieldLink RX9 98 "TestHallModel" "home" "[I", .fieldLink RX9 259 "TestHallModel" "now" "I", .fieldLink RX9 116 "TestHallModel" "came" "[I", .fieldLink RX9 125 "TestHallModel" "tries" "[I", .fieldLink RX9 107 "TestHallModel" "to" "[I", .fieldLink RX9 211 "TestHallModel" "holds" "I", .fieldLink RX9 55 "TestHallModel" "lines" "[I", .fieldLink RX9 61 "TestHallModel" "lineAt" "[I", .fieldLink RX9 58 "TestHallModel" "lineN" "[I", .methodLink RX9 268 yX9_worth, .instanceMethod yX9_worth, .selects RX9 yX9_worth yX9_worth, .initialized RX9, .code yX9_worth cX9_worth 7 (some .int), .fieldLink RX9 64 "TestHallModel" "op" "[I", .fieldLink RX9 82 "TestHallModel" "pile" "[I", .fieldLink RX9 67 "TestHallModel" "one" "[I"] ++ wsX90)
def wsX9_findRanks_r1 : List Cond := [Cond.fieldLink RX9 256 "TestHallModel" "learners" "I", Cond.fieldLink RX9 131 "TestHallModel" "rank" "[I", Cond.methodLink RX9 271 yX9_rankOf, Cond.instanceMethod yX9_rankOf, Cond.selects RX9 yX9_rankOf yX9_rankOf, Cond.initialized RX9, Cond.code yX9_rankOf cX9_rankOf 3 (some .int), Cond.fieldLink RX9 79 "TestHallModel" "known" "[I", Cond.fieldLink RX9 101 "TestHallModel" "kind" "[I", Cond.fieldLink RX9 98 "TestHallModel" "home" "[I", Cond.fieldLink RX9 259 "TestHallModel" "now" "I", Cond.fieldLink RX9 116 "TestHallModel" "came" "[I", Cond.fieldLink RX9 125 "TestHallModel" "tries" "[I", Cond.fieldLink RX9 107 "TestHallModel" "to" "[I", Cond.fieldLink RX9 211 "TestHallModel" "holds" "I", Cond.fieldLink RX9 55 "TestHallModel" "lines" "[I", Cond.fieldLink RX9 61 "TestHallModel" "lineAt" "[I", Cond.fieldLink RX9 58 "TestHallModel" "lineN" "[I", Cond.methodLink RX9 268 yX9_worth, Cond.instanceMethod yX9_worth, Cond.selects RX9 yX9_worth yX9_worth, Cond.code yX9_worth cX9_worth 7 (some .int), Cond.fieldLink RX9 64 "TestHallModel" "op" "[I", Cond.fieldLink RX9 82 "TestHallModel" "pile" "[I"]
def wsX9_findRanks_r2 : List Cond := [Cond.fieldLink RX9 67 "TestHallModel" "one" "[I"]
def wsX9_findRanks : List Cond := .code yX9_findRanks cX9_findRanks 2 none :: ((wsX9_findRanks_r1 ++ wsX9_findRanks_r2) ++ wsX90)
def wsX9_isAhead : List Cond := .code yX9_isAhead cX9_isAhead 3 (some .boolean) :: ([.fieldLink RX9 131 "TestHallModel" "rank" "[I"] ++ wsX90)
def wsX9_firstDealt : List Cond := .code yX9_firstDealt cX9_firstDealt 3 (some .int) :: ([.fieldLink RX9 256 "TestHallModel" "learners" "I", .fieldLink RX9 134 "TestHallModel" "isDealt" "[Z", .methodLink RX9 290 yX9_isAhead, .instanceMethod yX9_isAhead, .selects RX9 yX9_isAhead yX9_isAhead, .initialized RX9, .code yX9_isAhead cX9_isAhead 3 (some .boolean), .fieldLink RX9 131 "TestHallModel" "rank" "[I"] ++ wsX90)
def wsX9_books : List Cond := .code yX9_books cX9_books 3 none :: ([.fieldLink RX9 119 "TestHallModel" "state" "[I", .fieldLink RX9 122 "TestHallModel" "slot" "[I"] ++ wsX90)
def wsX9_deals_r1 : List Cond := [Cond.fieldLink RX9 134 "TestHallModel" "isDealt" "[Z", Cond.fieldLink RX9 259 "TestHallModel" "now" "I", Cond.fieldLink RX9 119 "TestHallModel" "state" "[I", Cond.methodLink RX9 274 yX9_findRanks, Cond.instanceMethod yX9_findRanks, Cond.selects RX9 yX9_findRanks yX9_findRanks, Cond.initialized RX9, Cond.code yX9_findRanks cX9_findRanks 2 none, Cond.fieldLink RX9 256 "TestHallModel" "learners" "I", Cond.fieldLink RX9 131 "TestHallModel" "rank" "[I", Cond.methodLink RX9 271 yX9_rankOf, Cond.instanceMethod yX9_rankOf, Cond.selects RX9 yX9_rankOf yX9_rankOf, Cond.code yX9_rankOf cX9_rankOf 3 (some .int), Cond.fieldLink RX9 79 "TestHallModel" "known" "[I", Cond.fieldLink RX9 101 "TestHallModel" "kind" "[I", Cond.fieldLink RX9 98 "TestHallModel" "home" "[I", Cond.fieldLink RX9 116 "TestHallModel" "came" "[I", Cond.fieldLink RX9 125 "TestHallModel" "tries" "[I", Cond.fieldLink RX9 107 "TestHallModel" "to" "[I", Cond.fieldLink RX9 211 "TestHallModel" "holds" "I", Cond.fieldLink RX9 55 "TestHallModel" "lines" "[I", Cond.fieldLink RX9 61 "TestHallModel" "lineAt" "[I", Cond.fieldLink RX9 58 "TestHallModel" "lineN" "[I"]
def wsX9_deals_r2 : List Cond := [Cond.methodLink RX9 268 yX9_worth, Cond.instanceMethod yX9_worth, Cond.selects RX9 yX9_worth yX9_worth, Cond.code yX9_worth cX9_worth 7 (some .int), Cond.fieldLink RX9 64 "TestHallModel" "op" "[I", Cond.fieldLink RX9 82 "TestHallModel" "pile" "[I", Cond.fieldLink RX9 67 "TestHallModel" "one" "[I", Cond.methodLink RX9 277 yX9_firstDealt, Cond.instanceMethod yX9_firstDealt, Cond.selects RX9 yX9_firstDealt yX9_firstDealt, Cond.code yX9_firstDealt cX9_firstDealt 3 (some .int), Cond.methodLink RX9 290 yX9_isAhead, Cond.instanceMethod yX9_isAhead, Cond.selects RX9 yX9_isAhead yX9_isAhead, Cond.code yX9_isAhead cX9_isAhead 3 (some .boolean), Cond.methodLink RX9 280 yX9_isFree, Cond.instanceMethod yX9_isFree, Cond.selects RX9 yX9_isFree yX9_isFree, Cond.code yX9_isFree cX9_isFree 2 (some .boolean), Cond.fieldLink RX9 88 "TestHallModel" "isShut" "[Z", Cond.fieldLink RX9 249 "TestHallModel" "examiners" "I", Cond.methodLink RX9 262 yX9_isThere, Cond.instanceMethod yX9_isThere, Cond.selects RX9 yX9_isThere yX9_isThere]
def wsX9_deals_r3 : List Cond := [Cond.code yX9_isThere cX9_isThere 2 (some .boolean), Cond.methodLink RX9 252 yX9_hasHour, Cond.instanceMethod yX9_hasHour, Cond.selects RX9 yX9_hasHour yX9_hasHour, Cond.code yX9_hasHour cX9_hasHour 6 (some .boolean), Cond.fieldLink RX9 85 "TestHallModel" "town" "[I", Cond.methodLink RX9 265 yX9_bookedAt, Cond.instanceMethod yX9_bookedAt, Cond.selects RX9 yX9_bookedAt yX9_bookedAt, Cond.code yX9_bookedAt cX9_bookedAt 4 (some .int), Cond.fieldLink RX9 122 "TestHallModel" "slot" "[I", Cond.methodLink RX9 283 yX9_suits, Cond.instanceMethod yX9_suits, Cond.selects RX9 yX9_suits yX9_suits, Cond.code yX9_suits cX9_suits 4 (some .boolean), Cond.fieldLink RX9 110 "TestHallModel" "wish" "[I", Cond.fieldLink RX9 104 "TestHallModel" "from" "[I", Cond.methodLink RX9 287 yX9_books, Cond.instanceMethod yX9_books, Cond.selects RX9 yX9_books yX9_books, Cond.code yX9_books cX9_books 3 none]
def wsX9_deals : List Cond := .code yX9_deals cX9_deals 4 (some .int) :: ((wsX9_deals_r1 ++ (wsX9_deals_r2 ++ wsX9_deals_r3)) ++ wsX90)
def wsX9_waits : List Cond := .code yX9_waits cX9_waits 2 none :: ([.fieldLink RX9 119 "TestHallModel" "state" "[I", .fieldLink RX9 122 "TestHallModel" "slot" "[I"] ++ wsX90)
def wsX9_deal_r1 : List Cond := [Cond.fieldLink RX9 1 "TestHallModel" "thrown" "I", Cond.fieldLink RX9 256 "TestHallModel" "learners" "I", Cond.fieldLink RX9 134 "TestHallModel" "isDealt" "[Z", Cond.fieldLink RX9 119 "TestHallModel" "state" "[I", Cond.methodLink RX9 293 yX9_deals, Cond.instanceMethod yX9_deals, Cond.selects RX9 yX9_deals yX9_deals, Cond.initialized RX9, Cond.code yX9_deals cX9_deals 4 (some .int), Cond.fieldLink RX9 259 "TestHallModel" "now" "I", Cond.methodLink RX9 274 yX9_findRanks, Cond.instanceMethod yX9_findRanks, Cond.selects RX9 yX9_findRanks yX9_findRanks, Cond.code yX9_findRanks cX9_findRanks 2 none, Cond.fieldLink RX9 131 "TestHallModel" "rank" "[I", Cond.methodLink RX9 271 yX9_rankOf, Cond.instanceMethod yX9_rankOf, Cond.selects RX9 yX9_rankOf yX9_rankOf, Cond.code yX9_rankOf cX9_rankOf 3 (some .int), Cond.fieldLink RX9 79 "TestHallModel" "known" "[I", Cond.fieldLink RX9 101 "TestHallModel" "kind" "[I", Cond.fieldLink RX9 98 "TestHallModel" "home" "[I", Cond.fieldLink RX9 116 "TestHallModel" "came" "[I", Cond.fieldLink RX9 125 "TestHallModel" "tries" "[I"]
def wsX9_deal_r2 : List Cond := [Cond.fieldLink RX9 107 "TestHallModel" "to" "[I", Cond.fieldLink RX9 211 "TestHallModel" "holds" "I", Cond.fieldLink RX9 55 "TestHallModel" "lines" "[I", Cond.fieldLink RX9 61 "TestHallModel" "lineAt" "[I", Cond.fieldLink RX9 58 "TestHallModel" "lineN" "[I", Cond.methodLink RX9 268 yX9_worth, Cond.instanceMethod yX9_worth, Cond.selects RX9 yX9_worth yX9_worth, Cond.code yX9_worth cX9_worth 7 (some .int), Cond.fieldLink RX9 64 "TestHallModel" "op" "[I", Cond.fieldLink RX9 82 "TestHallModel" "pile" "[I", Cond.fieldLink RX9 67 "TestHallModel" "one" "[I", Cond.methodLink RX9 277 yX9_firstDealt, Cond.instanceMethod yX9_firstDealt, Cond.selects RX9 yX9_firstDealt yX9_firstDealt, Cond.code yX9_firstDealt cX9_firstDealt 3 (some .int), Cond.methodLink RX9 290 yX9_isAhead, Cond.instanceMethod yX9_isAhead, Cond.selects RX9 yX9_isAhead yX9_isAhead, Cond.code yX9_isAhead cX9_isAhead 3 (some .boolean), Cond.methodLink RX9 280 yX9_isFree, Cond.instanceMethod yX9_isFree, Cond.selects RX9 yX9_isFree yX9_isFree, Cond.code yX9_isFree cX9_isFree 2 (some .boolean)]
def wsX9_deal_r3 : List Cond := [Cond.fieldLink RX9 88 "TestHallModel" "isShut" "[Z", Cond.fieldLink RX9 249 "TestHallModel" "examiners" "I", Cond.methodLink RX9 262 yX9_isThere, Cond.instanceMethod yX9_isThere, Cond.selects RX9 yX9_isThere yX9_isThere, Cond.code yX9_isThere cX9_isThere 2 (some .boolean), Cond.methodLink RX9 252 yX9_hasHour, Cond.instanceMethod yX9_hasHour, Cond.selects RX9 yX9_hasHour yX9_hasHour, Cond.code yX9_hasHour cX9_hasHour 6 (some .boolean), Cond.fieldLink RX9 85 "TestHallModel" "town" "[I", Cond.methodLink RX9 265 yX9_bookedAt, Cond.instanceMethod yX9_bookedAt, Cond.selects RX9 yX9_bookedAt yX9_bookedAt, Cond.code yX9_bookedAt cX9_bookedAt 4 (some .int), Cond.fieldLink RX9 122 "TestHallModel" "slot" "[I", Cond.methodLink RX9 283 yX9_suits, Cond.instanceMethod yX9_suits, Cond.selects RX9 yX9_suits yX9_suits, Cond.code yX9_suits cX9_suits 4 (some .boolean), Cond.fieldLink RX9 110 "TestHallModel" "wish" "[I", Cond.fieldLink RX9 104 "TestHallModel" "from" "[I", Cond.methodLink RX9 287 yX9_books, Cond.instanceMethod yX9_books]
def wsX9_deal_r4 : List Cond := [Cond.selects RX9 yX9_books yX9_books, Cond.code yX9_books cX9_books 3 none]
def wsX9_deal : List Cond := .code yX9_deal cX9_deal 2 (some .int) :: ((wsX9_deal_r1 ++ (wsX9_deal_r2 ++ (wsX9_deal_r3 ++ wsX9_deal_r4))) ++ wsX90)
def wsX9_movesUp_r1 : List Cond := [Cond.fieldLink RX9 256 "TestHallModel" "learners" "I", Cond.fieldLink RX9 119 "TestHallModel" "state" "[I", Cond.fieldLink RX9 122 "TestHallModel" "slot" "[I", Cond.fieldLink RX9 113 "TestHallModel" "isSooner" "[Z", Cond.fieldLink RX9 128 "TestHallModel" "ups" "[I", Cond.methodLink RX9 274 yX9_findRanks, Cond.instanceMethod yX9_findRanks, Cond.selects RX9 yX9_findRanks yX9_findRanks, Cond.initialized RX9, Cond.code yX9_findRanks cX9_findRanks 2 none, Cond.fieldLink RX9 131 "TestHallModel" "rank" "[I", Cond.methodLink RX9 271 yX9_rankOf, Cond.instanceMethod yX9_rankOf, Cond.selects RX9 yX9_rankOf yX9_rankOf, Cond.code yX9_rankOf cX9_rankOf 3 (some .int), Cond.fieldLink RX9 79 "TestHallModel" "known" "[I", Cond.fieldLink RX9 101 "TestHallModel" "kind" "[I", Cond.fieldLink RX9 98 "TestHallModel" "home" "[I", Cond.fieldLink RX9 259 "TestHallModel" "now" "I", Cond.fieldLink RX9 116 "TestHallModel" "came" "[I", Cond.fieldLink RX9 125 "TestHallModel" "tries" "[I", Cond.fieldLink RX9 107 "TestHallModel" "to" "[I", Cond.fieldLink RX9 211 "TestHallModel" "holds" "I", Cond.fieldLink RX9 55 "TestHallModel" "lines" "[I"]
def wsX9_movesUp_r2 : List Cond := [Cond.fieldLink RX9 61 "TestHallModel" "lineAt" "[I", Cond.fieldLink RX9 58 "TestHallModel" "lineN" "[I", Cond.methodLink RX9 268 yX9_worth, Cond.instanceMethod yX9_worth, Cond.selects RX9 yX9_worth yX9_worth, Cond.code yX9_worth cX9_worth 7 (some .int), Cond.fieldLink RX9 64 "TestHallModel" "op" "[I", Cond.fieldLink RX9 82 "TestHallModel" "pile" "[I", Cond.fieldLink RX9 67 "TestHallModel" "one" "[I", Cond.methodLink RX9 280 yX9_isFree, Cond.instanceMethod yX9_isFree, Cond.selects RX9 yX9_isFree yX9_isFree, Cond.code yX9_isFree cX9_isFree 2 (some .boolean), Cond.fieldLink RX9 88 "TestHallModel" "isShut" "[Z", Cond.fieldLink RX9 249 "TestHallModel" "examiners" "I", Cond.methodLink RX9 262 yX9_isThere, Cond.instanceMethod yX9_isThere, Cond.selects RX9 yX9_isThere yX9_isThere, Cond.code yX9_isThere cX9_isThere 2 (some .boolean), Cond.methodLink RX9 252 yX9_hasHour, Cond.instanceMethod yX9_hasHour, Cond.selects RX9 yX9_hasHour yX9_hasHour, Cond.code yX9_hasHour cX9_hasHour 6 (some .boolean), Cond.fieldLink RX9 85 "TestHallModel" "town" "[I"]
def wsX9_movesUp_r3 : List Cond := [Cond.methodLink RX9 265 yX9_bookedAt, Cond.instanceMethod yX9_bookedAt, Cond.selects RX9 yX9_bookedAt yX9_bookedAt, Cond.code yX9_bookedAt cX9_bookedAt 4 (some .int), Cond.methodLink RX9 283 yX9_suits, Cond.instanceMethod yX9_suits, Cond.selects RX9 yX9_suits yX9_suits, Cond.code yX9_suits cX9_suits 4 (some .boolean), Cond.fieldLink RX9 110 "TestHallModel" "wish" "[I", Cond.fieldLink RX9 104 "TestHallModel" "from" "[I", Cond.methodLink RX9 290 yX9_isAhead, Cond.instanceMethod yX9_isAhead, Cond.selects RX9 yX9_isAhead yX9_isAhead, Cond.code yX9_isAhead cX9_isAhead 3 (some .boolean), Cond.methodLink RX9 287 yX9_books, Cond.instanceMethod yX9_books, Cond.selects RX9 yX9_books yX9_books, Cond.code yX9_books cX9_books 3 none]
def wsX9_movesUp : List Cond := .code yX9_movesUp cX9_movesUp 6 (some .int) :: ((wsX9_movesUp_r1 ++ (wsX9_movesUp_r2 ++ wsX9_movesUp_r3)) ++ wsX90)
def wsX9_cancel_r1 : List Cond := [Cond.fieldLink RX9 1 "TestHallModel" "thrown" "I", Cond.fieldLink RX9 119 "TestHallModel" "state" "[I", Cond.fieldLink RX9 122 "TestHallModel" "slot" "[I", Cond.methodLink RX9 296 yX9_isLearner, Cond.instanceMethod yX9_isLearner, Cond.selects RX9 yX9_isLearner yX9_isLearner, Cond.initialized RX9, Cond.code yX9_isLearner cX9_isLearner 2 (some .boolean), Cond.fieldLink RX9 256 "TestHallModel" "learners" "I", Cond.methodLink RX9 299 yX9_waits, Cond.instanceMethod yX9_waits, Cond.selects RX9 yX9_waits yX9_waits, Cond.code yX9_waits cX9_waits 2 none, Cond.methodLink RX9 302 yX9_movesUp, Cond.instanceMethod yX9_movesUp, Cond.selects RX9 yX9_movesUp yX9_movesUp, Cond.code yX9_movesUp cX9_movesUp 6 (some .int), Cond.fieldLink RX9 113 "TestHallModel" "isSooner" "[Z", Cond.fieldLink RX9 128 "TestHallModel" "ups" "[I", Cond.methodLink RX9 274 yX9_findRanks, Cond.instanceMethod yX9_findRanks, Cond.selects RX9 yX9_findRanks yX9_findRanks, Cond.code yX9_findRanks cX9_findRanks 2 none, Cond.fieldLink RX9 131 "TestHallModel" "rank" "[I"]
def wsX9_cancel_r2 : List Cond := [Cond.methodLink RX9 271 yX9_rankOf, Cond.instanceMethod yX9_rankOf, Cond.selects RX9 yX9_rankOf yX9_rankOf, Cond.code yX9_rankOf cX9_rankOf 3 (some .int), Cond.fieldLink RX9 79 "TestHallModel" "known" "[I", Cond.fieldLink RX9 101 "TestHallModel" "kind" "[I", Cond.fieldLink RX9 98 "TestHallModel" "home" "[I", Cond.fieldLink RX9 259 "TestHallModel" "now" "I", Cond.fieldLink RX9 116 "TestHallModel" "came" "[I", Cond.fieldLink RX9 125 "TestHallModel" "tries" "[I", Cond.fieldLink RX9 107 "TestHallModel" "to" "[I", Cond.fieldLink RX9 211 "TestHallModel" "holds" "I", Cond.fieldLink RX9 55 "TestHallModel" "lines" "[I", Cond.fieldLink RX9 61 "TestHallModel" "lineAt" "[I", Cond.fieldLink RX9 58 "TestHallModel" "lineN" "[I", Cond.methodLink RX9 268 yX9_worth, Cond.instanceMethod yX9_worth, Cond.selects RX9 yX9_worth yX9_worth, Cond.code yX9_worth cX9_worth 7 (some .int), Cond.fieldLink RX9 64 "TestHallModel" "op" "[I", Cond.fieldLink RX9 82 "TestHallModel" "pile" "[I", Cond.fieldLink RX9 67 "TestHallModel" "one" "[I", Cond.methodLink RX9 280 yX9_isFree, Cond.instanceMethod yX9_isFree]
def wsX9_cancel_r3 : List Cond := [Cond.selects RX9 yX9_isFree yX9_isFree, Cond.code yX9_isFree cX9_isFree 2 (some .boolean), Cond.fieldLink RX9 88 "TestHallModel" "isShut" "[Z", Cond.fieldLink RX9 249 "TestHallModel" "examiners" "I", Cond.methodLink RX9 262 yX9_isThere, Cond.instanceMethod yX9_isThere, Cond.selects RX9 yX9_isThere yX9_isThere, Cond.code yX9_isThere cX9_isThere 2 (some .boolean), Cond.methodLink RX9 252 yX9_hasHour, Cond.instanceMethod yX9_hasHour, Cond.selects RX9 yX9_hasHour yX9_hasHour, Cond.code yX9_hasHour cX9_hasHour 6 (some .boolean), Cond.fieldLink RX9 85 "TestHallModel" "town" "[I", Cond.methodLink RX9 265 yX9_bookedAt, Cond.instanceMethod yX9_bookedAt, Cond.selects RX9 yX9_bookedAt yX9_bookedAt, Cond.code yX9_bookedAt cX9_bookedAt 4 (some .int), Cond.methodLink RX9 283 yX9_suits, Cond.instanceMethod yX9_suits, Cond.selects RX9 yX9_suits yX9_suits, Cond.code yX9_suits cX9_suits 4 (some .boolean), Cond.fieldLink RX9 110 "TestHallModel" "wish" "[I", Cond.fieldLink RX9 104 "TestHallModel" "from" "[I", Cond.methodLink RX9 290 yX9_isAhead]
def wsX9_cancel_r4 : List Cond := [Cond.instanceMethod yX9_isAhead, Cond.selects RX9 yX9_isAhead yX9_isAhead, Cond.code yX9_isAhead cX9_isAhead 3 (some .boolean), Cond.methodLink RX9 287 yX9_books, Cond.instanceMethod yX9_books, Cond.selects RX9 yX9_books yX9_books, Cond.code yX9_books cX9_books 3 none]
def wsX9_cancel : List Cond := .code yX9_cancel cX9_cancel 3 (some .int) :: ((wsX9_cancel_r1 ++ (wsX9_cancel_r2 ++ (wsX9_cancel_r3 ++ wsX9_cancel_r4))) ++ wsX90)
def wsX9_leave_r1 : List Cond := [Cond.fieldLink RX9 1 "TestHallModel" "thrown" "I", Cond.fieldLink RX9 119 "TestHallModel" "state" "[I", Cond.fieldLink RX9 122 "TestHallModel" "slot" "[I", Cond.methodLink RX9 296 yX9_isLearner, Cond.instanceMethod yX9_isLearner, Cond.selects RX9 yX9_isLearner yX9_isLearner, Cond.initialized RX9, Cond.code yX9_isLearner cX9_isLearner 2 (some .boolean), Cond.fieldLink RX9 256 "TestHallModel" "learners" "I", Cond.methodLink RX9 302 yX9_movesUp, Cond.instanceMethod yX9_movesUp, Cond.selects RX9 yX9_movesUp yX9_movesUp, Cond.code yX9_movesUp cX9_movesUp 6 (some .int), Cond.fieldLink RX9 113 "TestHallModel" "isSooner" "[Z", Cond.fieldLink RX9 128 "TestHallModel" "ups" "[I", Cond.methodLink RX9 274 yX9_findRanks, Cond.instanceMethod yX9_findRanks, Cond.selects RX9 yX9_findRanks yX9_findRanks, Cond.code yX9_findRanks cX9_findRanks 2 none, Cond.fieldLink RX9 131 "TestHallModel" "rank" "[I", Cond.methodLink RX9 271 yX9_rankOf, Cond.instanceMethod yX9_rankOf, Cond.selects RX9 yX9_rankOf yX9_rankOf, Cond.code yX9_rankOf cX9_rankOf 3 (some .int)]
def wsX9_leave_r2 : List Cond := [Cond.fieldLink RX9 79 "TestHallModel" "known" "[I", Cond.fieldLink RX9 101 "TestHallModel" "kind" "[I", Cond.fieldLink RX9 98 "TestHallModel" "home" "[I", Cond.fieldLink RX9 259 "TestHallModel" "now" "I", Cond.fieldLink RX9 116 "TestHallModel" "came" "[I", Cond.fieldLink RX9 125 "TestHallModel" "tries" "[I", Cond.fieldLink RX9 107 "TestHallModel" "to" "[I", Cond.fieldLink RX9 211 "TestHallModel" "holds" "I", Cond.fieldLink RX9 55 "TestHallModel" "lines" "[I", Cond.fieldLink RX9 61 "TestHallModel" "lineAt" "[I", Cond.fieldLink RX9 58 "TestHallModel" "lineN" "[I", Cond.methodLink RX9 268 yX9_worth, Cond.instanceMethod yX9_worth, Cond.selects RX9 yX9_worth yX9_worth, Cond.code yX9_worth cX9_worth 7 (some .int), Cond.fieldLink RX9 64 "TestHallModel" "op" "[I", Cond.fieldLink RX9 82 "TestHallModel" "pile" "[I", Cond.fieldLink RX9 67 "TestHallModel" "one" "[I", Cond.methodLink RX9 280 yX9_isFree, Cond.instanceMethod yX9_isFree, Cond.selects RX9 yX9_isFree yX9_isFree, Cond.code yX9_isFree cX9_isFree 2 (some .boolean), Cond.fieldLink RX9 88 "TestHallModel" "isShut" "[Z", Cond.fieldLink RX9 249 "TestHallModel" "examiners" "I"]
def wsX9_leave_r3 : List Cond := [Cond.methodLink RX9 262 yX9_isThere, Cond.instanceMethod yX9_isThere, Cond.selects RX9 yX9_isThere yX9_isThere, Cond.code yX9_isThere cX9_isThere 2 (some .boolean), Cond.methodLink RX9 252 yX9_hasHour, Cond.instanceMethod yX9_hasHour, Cond.selects RX9 yX9_hasHour yX9_hasHour, Cond.code yX9_hasHour cX9_hasHour 6 (some .boolean), Cond.fieldLink RX9 85 "TestHallModel" "town" "[I", Cond.methodLink RX9 265 yX9_bookedAt, Cond.instanceMethod yX9_bookedAt, Cond.selects RX9 yX9_bookedAt yX9_bookedAt, Cond.code yX9_bookedAt cX9_bookedAt 4 (some .int), Cond.methodLink RX9 283 yX9_suits, Cond.instanceMethod yX9_suits, Cond.selects RX9 yX9_suits yX9_suits, Cond.code yX9_suits cX9_suits 4 (some .boolean), Cond.fieldLink RX9 110 "TestHallModel" "wish" "[I", Cond.fieldLink RX9 104 "TestHallModel" "from" "[I", Cond.methodLink RX9 290 yX9_isAhead, Cond.instanceMethod yX9_isAhead, Cond.selects RX9 yX9_isAhead yX9_isAhead, Cond.code yX9_isAhead cX9_isAhead 3 (some .boolean), Cond.methodLink RX9 287 yX9_books]
def wsX9_leave_r4 : List Cond := [Cond.instanceMethod yX9_books, Cond.selects RX9 yX9_books yX9_books, Cond.code yX9_books cX9_books 3 none]
def wsX9_leave : List Cond := .code yX9_leave cX9_leave 4 (some .boolean) :: ((wsX9_leave_r1 ++ (wsX9_leave_r2 ++ (wsX9_leave_r3 ++ wsX9_leave_r4))) ++ wsX90)
def wsX9_place : List Cond := .code yX9_place cX9_place 7 (some .int) :: ([.fieldLink RX9 1 "TestHallModel" "thrown" "I", .fieldLink RX9 249 "TestHallModel" "examiners" "I", .fieldLink RX9 259 "TestHallModel" "now" "I", .fieldLink RX9 85 "TestHallModel" "town" "[I", .fieldLink RX9 256 "TestHallModel" "learners" "I", .fieldLink RX9 119 "TestHallModel" "state" "[I", .fieldLink RX9 122 "TestHallModel" "slot" "[I", .fieldLink RX9 98 "TestHallModel" "home" "[I", .methodLink RX9 262 yX9_isThere, .instanceMethod yX9_isThere, .selects RX9 yX9_isThere yX9_isThere, .initialized RX9, .code yX9_isThere cX9_isThere 2 (some .boolean), .methodLink RX9 252 yX9_hasHour, .instanceMethod yX9_hasHour, .selects RX9 yX9_hasHour yX9_hasHour, .code yX9_hasHour cX9_hasHour 6 (some .boolean), .methodLink RX9 299 yX9_waits, .instanceMethod yX9_waits, .selects RX9 yX9_waits yX9_waits, .code yX9_waits cX9_waits 2 none] ++ wsX90)
def wsX9_shut_r1 : List Cond := [Cond.fieldLink RX9 1 "TestHallModel" "thrown" "I", Cond.fieldLink RX9 259 "TestHallModel" "now" "I", Cond.fieldLink RX9 88 "TestHallModel" "isShut" "[Z", Cond.fieldLink RX9 256 "TestHallModel" "learners" "I", Cond.fieldLink RX9 134 "TestHallModel" "isDealt" "[Z", Cond.fieldLink RX9 119 "TestHallModel" "state" "[I", Cond.fieldLink RX9 122 "TestHallModel" "slot" "[I", Cond.methodLink RX9 299 yX9_waits, Cond.instanceMethod yX9_waits, Cond.selects RX9 yX9_waits yX9_waits, Cond.initialized RX9, Cond.code yX9_waits cX9_waits 2 none, Cond.methodLink RX9 293 yX9_deals, Cond.instanceMethod yX9_deals, Cond.selects RX9 yX9_deals yX9_deals, Cond.code yX9_deals cX9_deals 4 (some .int), Cond.methodLink RX9 274 yX9_findRanks, Cond.instanceMethod yX9_findRanks, Cond.selects RX9 yX9_findRanks yX9_findRanks, Cond.code yX9_findRanks cX9_findRanks 2 none, Cond.fieldLink RX9 131 "TestHallModel" "rank" "[I", Cond.methodLink RX9 271 yX9_rankOf, Cond.instanceMethod yX9_rankOf, Cond.selects RX9 yX9_rankOf yX9_rankOf]
def wsX9_shut_r2 : List Cond := [Cond.code yX9_rankOf cX9_rankOf 3 (some .int), Cond.fieldLink RX9 79 "TestHallModel" "known" "[I", Cond.fieldLink RX9 101 "TestHallModel" "kind" "[I", Cond.fieldLink RX9 98 "TestHallModel" "home" "[I", Cond.fieldLink RX9 116 "TestHallModel" "came" "[I", Cond.fieldLink RX9 125 "TestHallModel" "tries" "[I", Cond.fieldLink RX9 107 "TestHallModel" "to" "[I", Cond.fieldLink RX9 211 "TestHallModel" "holds" "I", Cond.fieldLink RX9 55 "TestHallModel" "lines" "[I", Cond.fieldLink RX9 61 "TestHallModel" "lineAt" "[I", Cond.fieldLink RX9 58 "TestHallModel" "lineN" "[I", Cond.methodLink RX9 268 yX9_worth, Cond.instanceMethod yX9_worth, Cond.selects RX9 yX9_worth yX9_worth, Cond.code yX9_worth cX9_worth 7 (some .int), Cond.fieldLink RX9 64 "TestHallModel" "op" "[I", Cond.fieldLink RX9 82 "TestHallModel" "pile" "[I", Cond.fieldLink RX9 67 "TestHallModel" "one" "[I", Cond.methodLink RX9 277 yX9_firstDealt, Cond.instanceMethod yX9_firstDealt, Cond.selects RX9 yX9_firstDealt yX9_firstDealt, Cond.code yX9_firstDealt cX9_firstDealt 3 (some .int), Cond.methodLink RX9 290 yX9_isAhead, Cond.instanceMethod yX9_isAhead]
def wsX9_shut_r3 : List Cond := [Cond.selects RX9 yX9_isAhead yX9_isAhead, Cond.code yX9_isAhead cX9_isAhead 3 (some .boolean), Cond.methodLink RX9 280 yX9_isFree, Cond.instanceMethod yX9_isFree, Cond.selects RX9 yX9_isFree yX9_isFree, Cond.code yX9_isFree cX9_isFree 2 (some .boolean), Cond.fieldLink RX9 249 "TestHallModel" "examiners" "I", Cond.methodLink RX9 262 yX9_isThere, Cond.instanceMethod yX9_isThere, Cond.selects RX9 yX9_isThere yX9_isThere, Cond.code yX9_isThere cX9_isThere 2 (some .boolean), Cond.methodLink RX9 252 yX9_hasHour, Cond.instanceMethod yX9_hasHour, Cond.selects RX9 yX9_hasHour yX9_hasHour, Cond.code yX9_hasHour cX9_hasHour 6 (some .boolean), Cond.fieldLink RX9 85 "TestHallModel" "town" "[I", Cond.methodLink RX9 265 yX9_bookedAt, Cond.instanceMethod yX9_bookedAt, Cond.selects RX9 yX9_bookedAt yX9_bookedAt, Cond.code yX9_bookedAt cX9_bookedAt 4 (some .int), Cond.methodLink RX9 283 yX9_suits, Cond.instanceMethod yX9_suits, Cond.selects RX9 yX9_suits yX9_suits, Cond.code yX9_suits cX9_suits 4 (some .boolean)]
def wsX9_shut_r4 : List Cond := [Cond.fieldLink RX9 110 "TestHallModel" "wish" "[I", Cond.fieldLink RX9 104 "TestHallModel" "from" "[I", Cond.methodLink RX9 287 yX9_books, Cond.instanceMethod yX9_books, Cond.selects RX9 yX9_books yX9_books, Cond.code yX9_books cX9_books 3 none]
def wsX9_shut : List Cond := .code yX9_shut cX9_shut 4 (some .int) :: ((wsX9_shut_r1 ++ (wsX9_shut_r2 ++ (wsX9_shut_r3 ++ wsX9_shut_r4))) ++ wsX90)
def wsX9_days : List Cond := .code yX9_days cX9_days 3 (some .int) :: ([.fieldLink RX9 1 "TestHallModel" "thrown" "I", .fieldLink RX9 259 "TestHallModel" "now" "I", .fieldLink RX9 256 "TestHallModel" "learners" "I", .fieldLink RX9 119 "TestHallModel" "state" "[I", .fieldLink RX9 122 "TestHallModel" "slot" "[I", .methodLink RX9 299 yX9_waits, .instanceMethod yX9_waits, .selects RX9 yX9_waits yX9_waits, .initialized RX9, .code yX9_waits cX9_waits 2 none] ++ wsX90)
def wsX9_held : List Cond := .code yX9_held cX9_held 4 (some .boolean) :: ([.fieldLink RX9 1 "TestHallModel" "thrown" "I", .fieldLink RX9 119 "TestHallModel" "state" "[I", .fieldLink RX9 122 "TestHallModel" "slot" "[I", .fieldLink RX9 259 "TestHallModel" "now" "I", .fieldLink RX9 92 "TestHallModel" "tests" "[I", .fieldLink RX9 95 "TestHallModel" "passes" "[I", .fieldLink RX9 305 "TestHallModel" "held" "I", .fieldLink RX9 125 "TestHallModel" "tries" "[I", .methodLink RX9 296 yX9_isLearner, .instanceMethod yX9_isLearner, .selects RX9 yX9_isLearner yX9_isLearner, .initialized RX9, .code yX9_isLearner cX9_isLearner 2 (some .boolean), .fieldLink RX9 256 "TestHallModel" "learners" "I", .methodLink RX9 299 yX9_waits, .instanceMethod yX9_waits, .selects RX9 yX9_waits yX9_waits, .code yX9_waits cX9_waits 2 none] ++ wsX90)
def wsX9_placeOf_r1 : List Cond := [Cond.fieldLink RX9 119 "TestHallModel" "state" "[I", Cond.fieldLink RX9 256 "TestHallModel" "learners" "I", Cond.methodLink RX9 274 yX9_findRanks, Cond.instanceMethod yX9_findRanks, Cond.selects RX9 yX9_findRanks yX9_findRanks, Cond.initialized RX9, Cond.code yX9_findRanks cX9_findRanks 2 none, Cond.fieldLink RX9 131 "TestHallModel" "rank" "[I", Cond.methodLink RX9 271 yX9_rankOf, Cond.instanceMethod yX9_rankOf, Cond.selects RX9 yX9_rankOf yX9_rankOf, Cond.code yX9_rankOf cX9_rankOf 3 (some .int), Cond.fieldLink RX9 79 "TestHallModel" "known" "[I", Cond.fieldLink RX9 101 "TestHallModel" "kind" "[I", Cond.fieldLink RX9 98 "TestHallModel" "home" "[I", Cond.fieldLink RX9 259 "TestHallModel" "now" "I", Cond.fieldLink RX9 116 "TestHallModel" "came" "[I", Cond.fieldLink RX9 125 "TestHallModel" "tries" "[I", Cond.fieldLink RX9 107 "TestHallModel" "to" "[I", Cond.fieldLink RX9 211 "TestHallModel" "holds" "I", Cond.fieldLink RX9 55 "TestHallModel" "lines" "[I", Cond.fieldLink RX9 61 "TestHallModel" "lineAt" "[I", Cond.fieldLink RX9 58 "TestHallModel" "lineN" "[I", Cond.methodLink RX9 268 yX9_worth]
def wsX9_placeOf_r2 : List Cond := [Cond.instanceMethod yX9_worth, Cond.selects RX9 yX9_worth yX9_worth, Cond.code yX9_worth cX9_worth 7 (some .int), Cond.fieldLink RX9 64 "TestHallModel" "op" "[I", Cond.fieldLink RX9 82 "TestHallModel" "pile" "[I", Cond.fieldLink RX9 67 "TestHallModel" "one" "[I", Cond.methodLink RX9 290 yX9_isAhead, Cond.instanceMethod yX9_isAhead, Cond.selects RX9 yX9_isAhead yX9_isAhead, Cond.code yX9_isAhead cX9_isAhead 3 (some .boolean)]
def wsX9_placeOf : List Cond := .code yX9_placeOf cX9_placeOf 4 (some .int) :: ((wsX9_placeOf_r1 ++ wsX9_placeOf_r2) ++ wsX90)
def wsX9_look_r1 : List Cond := [Cond.fieldLink RX9 1 "TestHallModel" "thrown" "I", Cond.fieldLink RX9 119 "TestHallModel" "state" "[I", Cond.fieldLink RX9 122 "TestHallModel" "slot" "[I", Cond.fieldLink RX9 125 "TestHallModel" "tries" "[I", Cond.fieldLink RX9 128 "TestHallModel" "ups" "[I", Cond.methodLink RX9 296 yX9_isLearner, Cond.instanceMethod yX9_isLearner, Cond.selects RX9 yX9_isLearner yX9_isLearner, Cond.initialized RX9, Cond.code yX9_isLearner cX9_isLearner 2 (some .boolean), Cond.fieldLink RX9 256 "TestHallModel" "learners" "I", Cond.methodLink RX9 308 yX9_placeOf, Cond.instanceMethod yX9_placeOf, Cond.selects RX9 yX9_placeOf yX9_placeOf, Cond.code yX9_placeOf cX9_placeOf 4 (some .int), Cond.methodLink RX9 274 yX9_findRanks, Cond.instanceMethod yX9_findRanks, Cond.selects RX9 yX9_findRanks yX9_findRanks, Cond.code yX9_findRanks cX9_findRanks 2 none, Cond.fieldLink RX9 131 "TestHallModel" "rank" "[I", Cond.methodLink RX9 271 yX9_rankOf, Cond.instanceMethod yX9_rankOf, Cond.selects RX9 yX9_rankOf yX9_rankOf, Cond.code yX9_rankOf cX9_rankOf 3 (some .int)]
def wsX9_look_r2 : List Cond := [Cond.fieldLink RX9 79 "TestHallModel" "known" "[I", Cond.fieldLink RX9 101 "TestHallModel" "kind" "[I", Cond.fieldLink RX9 98 "TestHallModel" "home" "[I", Cond.fieldLink RX9 259 "TestHallModel" "now" "I", Cond.fieldLink RX9 116 "TestHallModel" "came" "[I", Cond.fieldLink RX9 107 "TestHallModel" "to" "[I", Cond.fieldLink RX9 211 "TestHallModel" "holds" "I", Cond.fieldLink RX9 55 "TestHallModel" "lines" "[I", Cond.fieldLink RX9 61 "TestHallModel" "lineAt" "[I", Cond.fieldLink RX9 58 "TestHallModel" "lineN" "[I", Cond.methodLink RX9 268 yX9_worth, Cond.instanceMethod yX9_worth, Cond.selects RX9 yX9_worth yX9_worth, Cond.code yX9_worth cX9_worth 7 (some .int), Cond.fieldLink RX9 64 "TestHallModel" "op" "[I", Cond.fieldLink RX9 82 "TestHallModel" "pile" "[I", Cond.fieldLink RX9 67 "TestHallModel" "one" "[I", Cond.methodLink RX9 290 yX9_isAhead, Cond.instanceMethod yX9_isAhead, Cond.selects RX9 yX9_isAhead yX9_isAhead, Cond.code yX9_isAhead cX9_isAhead 3 (some .boolean)]
def wsX9_look : List Cond := .code yX9_look cX9_look 3 (some .int) :: ((wsX9_look_r1 ++ wsX9_look_r2) ++ wsX90)
def wsX9_at : List Cond := .code yX9_at cX9_at 4 (some .int) :: ([.fieldLink RX9 1 "TestHallModel" "thrown" "I", .fieldLink RX9 249 "TestHallModel" "examiners" "I", .methodLink RX9 252 yX9_hasHour, .instanceMethod yX9_hasHour, .selects RX9 yX9_hasHour yX9_hasHour, .initialized RX9, .code yX9_hasHour cX9_hasHour 6 (some .boolean), .fieldLink RX9 85 "TestHallModel" "town" "[I", .methodLink RX9 265 yX9_bookedAt, .instanceMethod yX9_bookedAt, .selects RX9 yX9_bookedAt yX9_bookedAt, .code yX9_bookedAt cX9_bookedAt 4 (some .int), .fieldLink RX9 256 "TestHallModel" "learners" "I", .fieldLink RX9 119 "TestHallModel" "state" "[I", .fieldLink RX9 122 "TestHallModel" "slot" "[I"] ++ wsX90)
def wsX9_streetsAt : List Cond := .code yX9_streetsAt cX9_streetsAt 4 (some .int) :: ([.fieldLink RX9 311 "TestHallModel" "streets" "I", .fieldLink RX9 137 "TestHallModel" "endA" "[I", .fieldLink RX9 140 "TestHallModel" "endB" "[I"] ++ wsX90)
def wsX9_street : List Cond := .code yX9_street cX9_street 5 (some .int) :: ([.fieldLink RX9 1 "TestHallModel" "thrown" "I", .fieldLink RX9 311 "TestHallModel" "streets" "I", .fieldLink RX9 137 "TestHallModel" "endA" "[I", .fieldLink RX9 140 "TestHallModel" "endB" "[I", .fieldLink RX9 143 "TestHallModel" "minutes" "[I", .fieldLink RX9 146 "TestHallModel" "marks" "[I", .methodLink RX9 314 yX9_streetsAt, .instanceMethod yX9_streetsAt, .selects RX9 yX9_streetsAt yX9_streetsAt, .initialized RX9, .code yX9_streetsAt cX9_streetsAt 4 (some .int)] ++ wsX90)
def wsX9_close : List Cond := .code yX9_close cX9_close 3 (some .boolean) :: ([.fieldLink RX9 1 "TestHallModel" "thrown" "I", .fieldLink RX9 311 "TestHallModel" "streets" "I", .fieldLink RX9 149 "TestHallModel" "isClosed" "[Z"] ++ wsX90)
def wsX9_ends : List Cond := .code yX9_ends cX9_ends 4 none :: ([.fieldLink RX9 317 "TestHallModel" "wayMany" "I", .fieldLink RX9 327 "TestHallModel" "wantLeast" "I", .fieldLink RX9 330 "TestHallModel" "wantMost" "I", .fieldLink RX9 333 "TestHallModel" "wantMarks" "I", .fieldLink RX9 336 "TestHallModel" "found" "I", .fieldLink RX9 339 "TestHallModel" "wanted" "I", .fieldLink RX9 342 "TestHallModel" "drawnMany" "I", .fieldLink RX9 345 "TestHallModel" "drawnMinutes" "I", .fieldLink RX9 158 "TestHallModel" "drawn" "[I", .fieldLink RX9 155 "TestHallModel" "way" "[I"] ++ wsX90)
def wsX9_goes_r1 : List Cond := [Cond.fieldLink RX9 317 "TestHallModel" "wayMany" "I", Cond.fieldLink RX9 311 "TestHallModel" "streets" "I", Cond.fieldLink RX9 149 "TestHallModel" "isClosed" "[Z", Cond.fieldLink RX9 152 "TestHallModel" "isGone" "[Z", Cond.fieldLink RX9 137 "TestHallModel" "endA" "[I", Cond.fieldLink RX9 140 "TestHallModel" "endB" "[I", Cond.fieldLink RX9 155 "TestHallModel" "way" "[I", Cond.fieldLink RX9 143 "TestHallModel" "minutes" "[I", Cond.fieldLink RX9 146 "TestHallModel" "marks" "[I", Cond.methodLink RX9 320 yX9_ends, Cond.instanceMethod yX9_ends, Cond.selects RX9 yX9_ends yX9_ends, Cond.initialized RX9, Cond.code yX9_ends cX9_ends 4 none, Cond.fieldLink RX9 327 "TestHallModel" "wantLeast" "I", Cond.fieldLink RX9 330 "TestHallModel" "wantMost" "I", Cond.fieldLink RX9 333 "TestHallModel" "wantMarks" "I", Cond.fieldLink RX9 336 "TestHallModel" "found" "I", Cond.fieldLink RX9 339 "TestHallModel" "wanted" "I", Cond.fieldLink RX9 342 "TestHallModel" "drawnMany" "I", Cond.fieldLink RX9 345 "TestHallModel" "drawnMinutes" "I", Cond.fieldLink RX9 158 "TestHallModel" "drawn" "[I", Cond.methodLink RX9 323 yX9_goes, Cond.instanceMethod yX9_goes]
def wsX9_goes_r2 : List Cond := [Cond.selects RX9 yX9_goes yX9_goes]
def wsX9_goes : List Cond := .code yX9_goes cX9_goes 5 none :: ((wsX9_goes_r1 ++ wsX9_goes_r2) ++ wsX90)
def wsX9_countAll_r1 : List Cond := [Cond.fieldLink RX9 327 "TestHallModel" "wantLeast" "I", Cond.fieldLink RX9 330 "TestHallModel" "wantMost" "I", Cond.fieldLink RX9 333 "TestHallModel" "wantMarks" "I", Cond.fieldLink RX9 339 "TestHallModel" "wanted" "I", Cond.fieldLink RX9 336 "TestHallModel" "found" "I", Cond.fieldLink RX9 317 "TestHallModel" "wayMany" "I", Cond.methodLink RX9 323 yX9_goes, Cond.instanceMethod yX9_goes, Cond.selects RX9 yX9_goes yX9_goes, Cond.initialized RX9, Cond.code yX9_goes cX9_goes 5 none, Cond.fieldLink RX9 311 "TestHallModel" "streets" "I", Cond.fieldLink RX9 149 "TestHallModel" "isClosed" "[Z", Cond.fieldLink RX9 152 "TestHallModel" "isGone" "[Z", Cond.fieldLink RX9 137 "TestHallModel" "endA" "[I", Cond.fieldLink RX9 140 "TestHallModel" "endB" "[I", Cond.fieldLink RX9 155 "TestHallModel" "way" "[I", Cond.fieldLink RX9 143 "TestHallModel" "minutes" "[I", Cond.fieldLink RX9 146 "TestHallModel" "marks" "[I", Cond.methodLink RX9 320 yX9_ends, Cond.instanceMethod yX9_ends, Cond.selects RX9 yX9_ends yX9_ends, Cond.code yX9_ends cX9_ends 4 none, Cond.fieldLink RX9 342 "TestHallModel" "drawnMany" "I"]
def wsX9_countAll_r2 : List Cond := [Cond.fieldLink RX9 345 "TestHallModel" "drawnMinutes" "I", Cond.fieldLink RX9 158 "TestHallModel" "drawn" "[I"]
def wsX9_countAll : List Cond := .code yX9_countAll cX9_countAll 5 (some .int) :: ((wsX9_countAll_r1 ++ wsX9_countAll_r2) ++ wsX90)
def wsX9_areNumbers : List Cond := .code yX9_areNumbers cX9_areNumbers 3 (some .boolean) :: ([])
def wsX9_routes_r1 : List Cond := [Cond.fieldLink RX9 1 "TestHallModel" "thrown" "I", Cond.methodLink RX9 348 yX9_areNumbers, Cond.static yX9_areNumbers, Cond.initialized RX9, Cond.code yX9_areNumbers cX9_areNumbers 3 (some .boolean), Cond.methodLink RX9 351 yX9_countAll, Cond.instanceMethod yX9_countAll, Cond.selects RX9 yX9_countAll yX9_countAll, Cond.code yX9_countAll cX9_countAll 5 (some .int), Cond.fieldLink RX9 327 "TestHallModel" "wantLeast" "I", Cond.fieldLink RX9 330 "TestHallModel" "wantMost" "I", Cond.fieldLink RX9 333 "TestHallModel" "wantMarks" "I", Cond.fieldLink RX9 339 "TestHallModel" "wanted" "I", Cond.fieldLink RX9 336 "TestHallModel" "found" "I", Cond.fieldLink RX9 317 "TestHallModel" "wayMany" "I", Cond.methodLink RX9 323 yX9_goes, Cond.instanceMethod yX9_goes, Cond.selects RX9 yX9_goes yX9_goes, Cond.code yX9_goes cX9_goes 5 none, Cond.fieldLink RX9 311 "TestHallModel" "streets" "I", Cond.fieldLink RX9 149 "TestHallModel" "isClosed" "[Z", Cond.fieldLink RX9 152 "TestHallModel" "isGone" "[Z", Cond.fieldLink RX9 137 "TestHallModel" "endA" "[I", Cond.fieldLink RX9 140 "TestHallModel" "endB" "[I"]
def wsX9_routes_r2 : List Cond := [Cond.fieldLink RX9 155 "TestHallModel" "way" "[I", Cond.fieldLink RX9 143 "TestHallModel" "minutes" "[I", Cond.fieldLink RX9 146 "TestHallModel" "marks" "[I", Cond.methodLink RX9 320 yX9_ends, Cond.instanceMethod yX9_ends, Cond.selects RX9 yX9_ends yX9_ends, Cond.code yX9_ends cX9_ends 4 none, Cond.fieldLink RX9 342 "TestHallModel" "drawnMany" "I", Cond.fieldLink RX9 345 "TestHallModel" "drawnMinutes" "I", Cond.fieldLink RX9 158 "TestHallModel" "drawn" "[I"]
def wsX9_routes : List Cond := .code yX9_routes cX9_routes 4 (some .int) :: ((wsX9_routes_r1 ++ wsX9_routes_r2) ++ wsX90)
def wsX9_route_r1 : List Cond := [Cond.fieldLink RX9 1 "TestHallModel" "thrown" "I", Cond.fieldLink RX9 345 "TestHallModel" "drawnMinutes" "I", Cond.methodLink RX9 348 yX9_areNumbers, Cond.static yX9_areNumbers, Cond.initialized RX9, Cond.code yX9_areNumbers cX9_areNumbers 3 (some .boolean), Cond.methodLink RX9 351 yX9_countAll, Cond.instanceMethod yX9_countAll, Cond.selects RX9 yX9_countAll yX9_countAll, Cond.code yX9_countAll cX9_countAll 5 (some .int), Cond.fieldLink RX9 327 "TestHallModel" "wantLeast" "I", Cond.fieldLink RX9 330 "TestHallModel" "wantMost" "I", Cond.fieldLink RX9 333 "TestHallModel" "wantMarks" "I", Cond.fieldLink RX9 339 "TestHallModel" "wanted" "I", Cond.fieldLink RX9 336 "TestHallModel" "found" "I", Cond.fieldLink RX9 317 "TestHallModel" "wayMany" "I", Cond.methodLink RX9 323 yX9_goes, Cond.instanceMethod yX9_goes, Cond.selects RX9 yX9_goes yX9_goes, Cond.code yX9_goes cX9_goes 5 none, Cond.fieldLink RX9 311 "TestHallModel" "streets" "I", Cond.fieldLink RX9 149 "TestHallModel" "isClosed" "[Z", Cond.fieldLink RX9 152 "TestHallModel" "isGone" "[Z", Cond.fieldLink RX9 137 "TestHallModel" "endA" "[I"]
def wsX9_route_r2 : List Cond := [Cond.fieldLink RX9 140 "TestHallModel" "endB" "[I", Cond.fieldLink RX9 155 "TestHallModel" "way" "[I", Cond.fieldLink RX9 143 "TestHallModel" "minutes" "[I", Cond.fieldLink RX9 146 "TestHallModel" "marks" "[I", Cond.methodLink RX9 320 yX9_ends, Cond.instanceMethod yX9_ends, Cond.selects RX9 yX9_ends yX9_ends, Cond.code yX9_ends cX9_ends 4 none, Cond.fieldLink RX9 342 "TestHallModel" "drawnMany" "I", Cond.fieldLink RX9 158 "TestHallModel" "drawn" "[I"]
def wsX9_route : List Cond := .code yX9_route cX9_route 7 (some .int) :: ((wsX9_route_r1 ++ wsX9_route_r2) ++ wsX90)
def wsX9_part_ : List Cond := .code yX9_part_ cX9_part_ 2 (some .int) :: ([.fieldLink RX9 1 "TestHallModel" "thrown" "I", .fieldLink RX9 342 "TestHallModel" "drawnMany" "I", .fieldLink RX9 158 "TestHallModel" "drawn" "[I"] ++ wsX90)
def wsX9_differs : List Cond := .code yX9_differs cX9_differs 11 (some .int) :: ([.fieldLink RX9 1 "TestHallModel" "thrown" "I", .fieldLink RX9 249 "TestHallModel" "examiners" "I", .fieldLink RX9 92 "TestHallModel" "tests" "[I", .fieldLink RX9 95 "TestHallModel" "passes" "[I", .constantLong RX9 355 (100)] ++ wsX90)
def wsX9_learnersThat : List Cond := .code yX9_learnersThat cX9_learnersThat 4 (some .int) :: ([.fieldLink RX9 256 "TestHallModel" "learners" "I", .fieldLink RX9 119 "TestHallModel" "state" "[I"] ++ wsX90)
def wsX9_count : List Cond := .code yX9_count cX9_count 2 (some .int) :: ([.fieldLink RX9 1 "TestHallModel" "thrown" "I", .fieldLink RX9 249 "TestHallModel" "examiners" "I", .fieldLink RX9 256 "TestHallModel" "learners" "I", .fieldLink RX9 259 "TestHallModel" "now" "I", .fieldLink RX9 55 "TestHallModel" "lines" "[I", .fieldLink RX9 211 "TestHallModel" "holds" "I", .fieldLink RX9 11 "TestHallModel" "taped" "I", .fieldLink RX9 311 "TestHallModel" "streets" "I", .fieldLink RX9 305 "TestHallModel" "held" "I", .methodLink RX9 357 yX9_learnersThat, .instanceMethod yX9_learnersThat, .selects RX9 yX9_learnersThat yX9_learnersThat, .initialized RX9, .code yX9_learnersThat cX9_learnersThat 4 (some .int), .fieldLink RX9 119 "TestHallModel" "state" "[I"] ++ wsX90)
def wsX9_load : List Cond := .code yX9_load cX9_load 5 (some .int) :: ([.fieldLink RX9 1 "TestHallModel" "thrown" "I", .fieldLink RX9 249 "TestHallModel" "examiners" "I", .fieldLink RX9 256 "TestHallModel" "learners" "I", .fieldLink RX9 119 "TestHallModel" "state" "[I", .fieldLink RX9 122 "TestHallModel" "slot" "[I", .fieldLink RX9 92 "TestHallModel" "tests" "[I", .fieldLink RX9 95 "TestHallModel" "passes" "[I"] ++ wsX90)
def wsJ9_max_7cf53 : List Cond := .code yJ9_max_7cf53 cJ9_max_7cf53 2 (some .int) :: ([])
def wsL_look_r1 : List Cond := [Cond.classLink RL 13 "java/util/NoSuchElementException", Cond.methodLink RL 7 yX8_look, Cond.instanceMethod yX8_look, Cond.selects RX8 yX8_look yX8_look, Cond.initialized RX8, Cond.code yX8_look cX8_look 4 (some .int), Cond.classLink RX8 186 "java/util/NoSuchElementException", Cond.initialized "java/util/NoSuchElementException", Cond.fieldLink RX8 140 "TestHall$Learner" "state" "I", Cond.fieldLink RX8 143 "TestHall$Learner" "slot" "I", Cond.fieldLink RX8 183 "TestHall$Learner" "tries" "I", Cond.fieldLink RX8 196 "TestHall$Learner" "movedUp" "I", Cond.methodLink RX8 136 yX8_find, Cond.instanceMethod yX8_find, Cond.selects RX8 yX8_find yX8_find, Cond.code yX8_find cX8_find 2 (some (.object "TestHall$Learner")), Cond.fieldLink RX8 64 "TestHall" "learnerCount" "I", Cond.fieldLink RX8 18 "TestHall" "learners" "[LTestHall$Learner;", Cond.methodLink RX8 76 yX8_isWithin, Cond.static yX8_isWithin, Cond.code yX8_isWithin cX8_isWithin 3 (some .boolean), Cond.methodLink RX8 193 yX8_placeAmongWaiting, Cond.instanceMethod yX8_placeAmongWaiting, Cond.selects RX8 yX8_placeAmongWaiting yX8_placeAmongWaiting]
def wsL_look_r2 : List Cond := [Cond.code yX8_placeAmongWaiting cX8_placeAmongWaiting 2 (some .int), Cond.fieldLink RX8 25 "TestHall" "line" "LTestHall$Line;", Cond.fieldLink RX8 116 "TestHall$Learner" "number" "I", Cond.methodLink RX8 130 yX8_lineUpWaiting, Cond.instanceMethod yX8_lineUpWaiting, Cond.selects RX8 yX8_lineUpWaiting yX8_lineUpWaiting, Cond.code yX8_lineUpWaiting cX8_lineUpWaiting 2 none, Cond.methodLink RX8 160 yX2_clear, Cond.instanceMethod yX2_clear, Cond.selects RX2 yX2_clear yX2_clear, Cond.initialized RX2, Cond.code yX2_clear cX2_clear 1 none, Cond.fieldLink RX2 18 "TestHall$Line" "size" "I", Cond.methodLink RX8 166 yX8_rankOf, Cond.instanceMethod yX8_rankOf, Cond.selects RX8 yX8_rankOf yX8_rankOf, Cond.code yX8_rankOf cX8_rankOf 2 (some .int), Cond.fieldLink RX8 31 "TestHall" "facts" "[I", Cond.fieldLink RX8 100 "TestHall$Learner" "sort" "I", Cond.fieldLink RX8 97 "TestHall$Learner" "town" "I", Cond.fieldLink RX8 12 "TestHall" "calendar" "LTestHall$Calendar;", Cond.fieldLink RX8 80 "TestHall$Calendar" "now" "I", Cond.fieldLink RX8 266 "TestHall$Learner" "came" "I", Cond.fieldLink RX8 106 "TestHall$Learner" "to" "I"]
def wsL_look_r3 : List Cond := [Cond.fieldLink RX8 57 "TestHall" "order" "LTestHall$Text;", Cond.methodLink RX8 269 yX5_rankBy, Cond.instanceMethod yX5_rankBy, Cond.selects RX5 yX5_rankBy yX5_rankBy, Cond.initialized RX5, Cond.code yX5_rankBy cX5_rankBy 4 (some .int), Cond.fieldLink RX5 24 "TestHall$Text" "lines" "I", Cond.fieldLink RX5 13 "TestHall$Text" "ends" "[I", Cond.fieldLink RX5 9 "TestHall$Text" "firsts" "[I", Cond.methodLink RX5 31 yX5_valueOf, Cond.instanceMethod yX5_valueOf, Cond.selects RX5 yX5_valueOf yX5_valueOf, Cond.code yX5_valueOf cX5_valueOf 7 (some .int), Cond.fieldLink RX5 18 "TestHall$Text" "codes" "[I", Cond.fieldLink RX5 21 "TestHall$Text" "stack" "[I", Cond.methodLink RX5 37 yX5_joined, Cond.static yX5_joined, Cond.code yX5_joined cX5_joined 3 (some .int), Cond.methodLink RX8 170 yX2_add, Cond.instanceMethod yX2_add, Cond.selects RX2 yX2_add yX2_add, Cond.code yX2_add cX2_add 4 none, Cond.fieldLink RX2 15 "TestHall$Line" "ranks" "[I", Cond.fieldLink RX2 9 "TestHall$Line" "numbers" "[I"]
def wsL_look_r4 : List Cond := [Cond.methodLink RX8 273 yX2_placeOf, Cond.instanceMethod yX2_placeOf, Cond.selects RX2 yX2_placeOf yX2_placeOf, Cond.code yX2_placeOf cX2_placeOf 3 (some .int)]
def wsL_look : List Cond := .codeWith yL_look cL_look 5 (some .int) [(0, 10, 13, 13)] :: ((wsL_look_r1 ++ (wsL_look_r2 ++ (wsL_look_r3 ++ wsL_look_r4))) ++ wsX10 ++ wsX80 ++ wsX20 ++ wsX00 ++ wsX50 ++ (vx_atS RX8 190 "java/util/NoSuchElementException" ["java/lang/RuntimeException", "java/lang/Exception"]).filter goodWord)
def wsL_law0_r1 : List Cond := [Cond.classLink RL 8 RX8, Cond.instantiable RX8 10, Cond.initialized RX8, Cond.classLink RL 16 RX9, Cond.instantiable RX9 62, Cond.initialized RX9, Cond.arrayClass .long, Cond.constantLong RL 34 (4294967295), Cond.methodLink RL 15 yX8_init, Cond.instanceMethod yX8_init, Cond.code yX8_init cX8_init 1 none, Cond.methodLink RX8 3 objectInit, Cond.instanceMethod objectInit, Cond.code objectInit ⟨#[0xb1]⟩ 1 none, Cond.classLink RX8 9 RX0, Cond.instantiable RX0 9, Cond.initialized RX0, Cond.fieldLink RX8 12 "TestHall" "calendar" "LTestHall$Calendar;", Cond.classLink RX8 16 RX1, Cond.fieldLink RX8 18 "TestHall" "learners" "[LTestHall$Learner;", Cond.classLink RX8 22 RX2, Cond.instantiable RX2 3, Cond.initialized RX2, Cond.fieldLink RX8 25 "TestHall" "line" "LTestHall$Line;"]
def wsL_law0_r2 : List Cond := [Cond.arrayClass .int, Cond.fieldLink RX8 31 "TestHall" "facts" "[I", Cond.classLink RX8 35 RX4, Cond.instantiable RX4 2, Cond.initialized RX4, Cond.fieldLink RX8 38 "TestHall" "tape" "LTestHall$Tape;", Cond.classLink RX8 42 RX6, Cond.instantiable RX6 8, Cond.initialized RX6, Cond.fieldLink RX8 45 "TestHall" "reader" "LTestHall$TextReader;", Cond.classLink RX8 49 RX3, Cond.instantiable RX3 18, Cond.initialized RX3, Cond.fieldLink RX8 52 "TestHall" "streets" "LTestHall$Streets;", Cond.classLink RX8 29 RX5, Cond.instantiable RX5 6, Cond.initialized RX5, Cond.fieldLink RX8 57 "TestHall" "order" "LTestHall$Text;", Cond.fieldLink RX8 61 "TestHall" "spare" "LTestHall$Text;", Cond.fieldLink RX8 64 "TestHall" "learnerCount" "I", Cond.methodLink RX8 11 yX0_init, Cond.instanceMethod yX0_init, Cond.code yX0_init cX0_init 1 none, Cond.methodLink RX0 3 objectInit]
def wsL_law0_r3 : List Cond := [Cond.fieldLink RX0 9 "TestHall$Calendar" "towns" "[I", Cond.arrayClass .boolean, Cond.fieldLink RX0 15 "TestHall$Calendar" "shutDays" "[Z", Cond.fieldLink RX0 19 "TestHall$Calendar" "booked" "[I", Cond.fieldLink RX0 22 "TestHall$Calendar" "tests" "[I", Cond.fieldLink RX0 25 "TestHall$Calendar" "passes" "[I", Cond.methodLink RX0 28 yJ7_fill_53178, Cond.static yJ7_fill_53178, Cond.initialized RJ7, Cond.code yJ7_fill_53178 cJ7_fill_53178 4 none, Cond.instanceMethod yX2_init, Cond.code yX2_init cX2_init 1 none, Cond.methodLink RX2 3 objectInit, Cond.fieldLink RX2 9 "TestHall$Line" "numbers" "[I", Cond.fieldLink RX2 15 "TestHall$Line" "ranks" "[I", Cond.instanceMethod yX4_init, Cond.code yX4_init cX4_init 1 none, Cond.methodLink RX4 1 objectInit, Cond.arrayClass .char, Cond.fieldLink RX4 9 "TestHall$Tape" "signs" "[C", Cond.instanceMethod yX6_init, Cond.code yX6_init cX6_init 1 none, Cond.methodLink RX6 3 objectInit, Cond.fieldLink RX6 11 "TestHall$TextReader" "tokens" "[I"]
def wsL_law0_r4 : List Cond := [Cond.fieldLink RX6 15 "TestHall$TextReader" "places" "[I", Cond.instanceMethod yX3_init, Cond.code yX3_init cX3_init 1 none, Cond.methodLink RX3 3 objectInit, Cond.fieldLink RX3 11 "TestHall$Streets" "ends" "[I", Cond.fieldLink RX3 15 "TestHall$Streets" "otherEnds" "[I", Cond.fieldLink RX3 18 "TestHall$Streets" "minutesOf" "[I", Cond.fieldLink RX3 21 "TestHall$Streets" "marksOf" "[I", Cond.fieldLink RX3 24 "TestHall$Streets" "closed" "[Z", Cond.classLink RX3 28 "[[I", Cond.fieldLink RX3 30 "TestHall$Streets" "streetsAt" "[[I", Cond.fieldLink RX3 33 "TestHall$Streets" "sizeAt" "[I", Cond.fieldLink RX3 36 "TestHall$Streets" "path" "[I", Cond.fieldLink RX3 39 "TestHall$Streets" "drawn" "[I", Cond.instanceMethod yX5_init, Cond.code yX5_init cX5_init 1 none, Cond.methodLink RX5 3 objectInit, Cond.fieldLink RX5 9 "TestHall$Text" "firsts" "[I", Cond.fieldLink RX5 13 "TestHall$Text" "ends" "[I", Cond.fieldLink RX5 18 "TestHall$Text" "codes" "[I", Cond.fieldLink RX5 21 "TestHall$Text" "stack" "[I", Cond.methodLink RL 18 yX9_init, Cond.instanceMethod yX9_init, Cond.code yX9_init cX9_init 2 none]
def wsL_law0_r5 : List Cond := [Cond.methodLink RX9 18 objectInit, Cond.fieldLink RX9 14 "TestHallModel" "tape" "[I", Cond.fieldLink RX9 24 "TestHallModel" "sort" "[I", Cond.fieldLink RX9 27 "TestHallModel" "place" "[I", Cond.fieldLink RX9 30 "TestHallModel" "value" "[J", Cond.constantLong RX9 34 (11726208), Cond.constantLong RX9 36 (1176170), Cond.constantLong RX9 38 (1891), Cond.constantLong RX9 40 (983628), Cond.constantLong RX9 42 (1034460), Cond.constantLong RX9 44 (43169436), Cond.constantLong RX9 46 (38407499), Cond.constantLong RX9 48 (614923), Cond.constantLong RX9 50 (5538), Cond.fieldLink RX9 52 "TestHallModel" "words" "[J", Cond.fieldLink RX9 55 "TestHallModel" "lines" "[I", Cond.fieldLink RX9 58 "TestHallModel" "lineN" "[I", Cond.fieldLink RX9 61 "TestHallModel" "lineAt" "[I", Cond.fieldLink RX9 64 "TestHallModel" "op" "[I", Cond.fieldLink RX9 67 "TestHallModel" "one" "[I", Cond.fieldLink RX9 70 "TestHallModel" "sumWaits" "[I", Cond.fieldLink RX9 73 "TestHallModel" "signWaits" "[I", Cond.fieldLink RX9 76 "TestHallModel" "andWaits" "[I", Cond.fieldLink RX9 79 "TestHallModel" "known" "[I"]
def wsL_law0_r6 : List Cond := [Cond.fieldLink RX9 82 "TestHallModel" "pile" "[I", Cond.fieldLink RX9 85 "TestHallModel" "town" "[I", Cond.fieldLink RX9 88 "TestHallModel" "isShut" "[Z", Cond.fieldLink RX9 92 "TestHallModel" "tests" "[I", Cond.fieldLink RX9 95 "TestHallModel" "passes" "[I", Cond.fieldLink RX9 98 "TestHallModel" "home" "[I", Cond.fieldLink RX9 101 "TestHallModel" "kind" "[I", Cond.fieldLink RX9 104 "TestHallModel" "from" "[I", Cond.fieldLink RX9 107 "TestHallModel" "to" "[I", Cond.fieldLink RX9 110 "TestHallModel" "wish" "[I", Cond.fieldLink RX9 113 "TestHallModel" "isSooner" "[Z", Cond.fieldLink RX9 116 "TestHallModel" "came" "[I", Cond.fieldLink RX9 119 "TestHallModel" "state" "[I", Cond.fieldLink RX9 122 "TestHallModel" "slot" "[I", Cond.fieldLink RX9 125 "TestHallModel" "tries" "[I", Cond.fieldLink RX9 128 "TestHallModel" "ups" "[I", Cond.fieldLink RX9 131 "TestHallModel" "rank" "[I", Cond.fieldLink RX9 134 "TestHallModel" "isDealt" "[Z", Cond.fieldLink RX9 137 "TestHallModel" "endA" "[I", Cond.fieldLink RX9 140 "TestHallModel" "endB" "[I", Cond.fieldLink RX9 143 "TestHallModel" "minutes" "[I", Cond.fieldLink RX9 146 "TestHallModel" "marks" "[I", Cond.fieldLink RX9 149 "TestHallModel" "isClosed" "[Z", Cond.fieldLink RX9 152 "TestHallModel" "isGone" "[Z"]
def wsL_law0_r7 : List Cond := [Cond.fieldLink RX9 155 "TestHallModel" "way" "[I", Cond.fieldLink RX9 158 "TestHallModel" "drawn" "[I", Cond.methodLink RL 19 yX8_examiner, Cond.instanceMethod yX8_examiner, Cond.selects RX8 yX8_examiner yX8_examiner, Cond.code yX8_examiner cX8_examiner 1 (some .int), Cond.methodLink RX8 68 yX0_addExaminer, Cond.instanceMethod yX0_addExaminer, Cond.selects RX0 yX0_addExaminer yX0_addExaminer, Cond.code yX0_addExaminer cX0_addExaminer 1 (some .int), Cond.fieldLink RX0 34 "TestHall$Calendar" "examiners" "I", Cond.methodLink RL 23 yX9_examiner, Cond.instanceMethod yX9_examiner, Cond.selects RX9 yX9_examiner yX9_examiner, Cond.code yX9_examiner cX9_examiner 1 (some .int), Cond.fieldLink RX9 1 "TestHallModel" "thrown" "I", Cond.fieldLink RX9 249 "TestHallModel" "examiners" "I", Cond.methodLink RL 24 yX8_place, Cond.instanceMethod yX8_place, Cond.selects RX8 yX8_place yX8_place, Cond.code yX8_place cX8_place 7 (some .int), Cond.fieldLink RX8 80 "TestHall$Calendar" "now" "I", Cond.methodLink RX8 72 yX0_isExaminer, Cond.instanceMethod yX0_isExaminer]
def wsL_law0_r8 : List Cond := [Cond.selects RX0 yX0_isExaminer yX0_isExaminer, Cond.code yX0_isExaminer cX0_isExaminer 2 (some .boolean), Cond.methodLink RX8 76 yX8_isWithin, Cond.static yX8_isWithin, Cond.code yX8_isWithin cX8_isWithin 3 (some .boolean), Cond.methodLink RX8 83 yX0_setTown, Cond.instanceMethod yX0_setTown, Cond.selects RX0 yX0_setTown yX0_setTown, Cond.code yX0_setTown cX0_setTown 4 none, Cond.methodLink RX0 38 yX0_isExaminer, Cond.static yX8_isDay, Cond.code yX8_isDay cX8_isDay 1 (some .boolean), Cond.methodLink RX8 87 yX8_releaseMisplaced, Cond.instanceMethod yX8_releaseMisplaced, Cond.selects RX8 yX8_releaseMisplaced yX8_releaseMisplaced, Cond.code yX8_releaseMisplaced cX8_releaseMisplaced 5 (some .int), Cond.fieldLink RX8 140 "TestHall$Learner" "state" "I", Cond.fieldLink RX8 143 "TestHall$Learner" "slot" "I", Cond.methodLink RX8 176 yX8_examinerOf, Cond.static yX8_examinerOf, Cond.code yX8_examinerOf cX8_examinerOf 1 (some .int), Cond.methodLink RX8 256 yX8_isStillThere, Cond.instanceMethod yX8_isStillThere, Cond.selects RX8 yX8_isStillThere yX8_isStillThere]
def wsL_law0_r9 : List Cond := [Cond.code yX8_isStillThere cX8_isStillThere 4 (some .boolean), Cond.fieldLink RX8 97 "TestHall$Learner" "town" "I", Cond.methodLink RX8 163 yX8_dayOf, Cond.static yX8_dayOf, Cond.code yX8_dayOf cX8_dayOf 1 (some .int), Cond.methodLink RX8 260 yX8_hourOf, Cond.static yX8_hourOf, Cond.code yX8_hourOf cX8_hourOf 1 (some .int), Cond.methodLink RX8 201 yX0_hasHour, Cond.instanceMethod yX0_hasHour, Cond.selects RX0 yX0_hasHour yX0_hasHour, Cond.code yX0_hasHour cX0_hasHour 5 (some .boolean), Cond.methodLink RX0 45 yX0_townOf, Cond.instanceMethod yX0_townOf, Cond.selects RX0 yX0_townOf yX0_townOf, Cond.code yX0_townOf cX0_townOf 4 (some .int), Cond.methodLink RX0 49 yX0_isTravel, Cond.static yX0_isTravel, Cond.code yX0_isTravel cX0_isTravel 2 (some .boolean), Cond.methodLink RX8 263 yX0_townOf, Cond.methodLink RX8 146 yX8_release, Cond.instanceMethod yX8_release, Cond.selects RX8 yX8_release yX8_release, Cond.code yX8_release cX8_release 2 none]
def wsL_law0_r10 : List Cond := [Cond.methodLink RX8 253 yX0_setBooked, Cond.instanceMethod yX0_setBooked, Cond.selects RX0 yX0_setBooked yX0_setBooked, Cond.code yX0_setBooked cX0_setBooked 3 none, Cond.methodLink RX0 53 yX0_isSlot, Cond.instanceMethod yX0_isSlot, Cond.selects RX0 yX0_isSlot yX0_isSlot, Cond.code yX0_isSlot cX0_isSlot 2 (some .boolean), Cond.methodLink RL 28 yX9_place, Cond.instanceMethod yX9_place, Cond.selects RX9 yX9_place yX9_place, Cond.code yX9_place cX9_place 7 (some .int), Cond.fieldLink RX9 259 "TestHallModel" "now" "I", Cond.fieldLink RX9 256 "TestHallModel" "learners" "I", Cond.methodLink RX9 262 yX9_isThere, Cond.instanceMethod yX9_isThere, Cond.selects RX9 yX9_isThere yX9_isThere, Cond.code yX9_isThere cX9_isThere 2 (some .boolean), Cond.methodLink RX9 252 yX9_hasHour, Cond.instanceMethod yX9_hasHour, Cond.selects RX9 yX9_hasHour yX9_hasHour, Cond.code yX9_hasHour cX9_hasHour 6 (some .boolean), Cond.methodLink RX9 299 yX9_waits, Cond.instanceMethod yX9_waits]
def wsL_law0_r11 : List Cond := [Cond.selects RX9 yX9_waits yX9_waits, Cond.code yX9_waits cX9_waits 2 none, Cond.methodLink RL 29 yX8_learner, Cond.instanceMethod yX8_learner, Cond.selects RX8 yX8_learner yX8_learner, Cond.code yX8_learner cX8_learner 8 (some .int), Cond.instantiable RX1 12, Cond.initialized RX1, Cond.fieldLink RX8 100 "TestHall$Learner" "sort" "I", Cond.fieldLink RX8 103 "TestHall$Learner" "from" "I", Cond.fieldLink RX8 106 "TestHall$Learner" "to" "I", Cond.fieldLink RX8 109 "TestHall$Learner" "wish" "I", Cond.fieldLink RX8 112 "TestHall$Learner" "sooner" "Z", Cond.fieldLink RX8 116 "TestHall$Learner" "number" "I", Cond.methodLink RX8 91 yX8_isDay, Cond.methodLink RX8 94 yX1_init, Cond.instanceMethod yX1_init, Cond.code yX1_init cX1_init 3 none, Cond.methodLink RX1 3 objectInit, Cond.fieldLink RX1 9 "TestHall$Learner" "number" "I", Cond.fieldLink RX1 15 "TestHall$Learner" "came" "I", Cond.fieldLink RX1 18 "TestHall$Learner" "state" "I", Cond.fieldLink RX1 21 "TestHall$Learner" "slot" "I", Cond.methodLink RL 33 yX9_learner]
def wsL_law0_r12 : List Cond := [Cond.instanceMethod yX9_learner, Cond.selects RX9 yX9_learner yX9_learner, Cond.code yX9_learner cX9_learner 7 (some .int), Cond.methodLink RL 36 yX8_feed, Cond.instanceMethod yX8_feed, Cond.selects RX8 yX8_feed yX8_feed, Cond.code yX8_feed cX8_feed 7 (some .int), Cond.fieldLink RX8 123 "TestHall$Tape" "length" "I", Cond.methodLink RX8 119 yX4_addEight, Cond.instanceMethod yX4_addEight, Cond.selects RX4 yX4_addEight yX4_addEight, Cond.code yX4_addEight cX4_addEight 6 none, Cond.fieldLink RX4 19 "TestHall$Tape" "length" "I", Cond.methodLink RL 40 yX9_feed, Cond.instanceMethod yX9_feed, Cond.selects RX9 yX9_feed yX9_feed, Cond.code yX9_feed cX9_feed 7 (some .int), Cond.fieldLink RX9 11 "TestHallModel" "taped" "I", Cond.methodLink RX9 7 yX9_lay, Cond.instanceMethod yX9_lay, Cond.selects RX9 yX9_lay yX9_lay, Cond.code yX9_lay cX9_lay 5 none, Cond.methodLink RL 41 yX8_text, Cond.instanceMethod yX8_text]
def wsL_law0_r13 : List Cond := [Cond.selects RX8 yX8_text yX8_text, Cond.code yX8_text cX8_text 3 (some .int), Cond.methodLink RX8 126 yX6_read, Cond.instanceMethod yX6_read, Cond.selects RX6 yX6_read yX6_read, Cond.code yX6_read cX6_read 4 (some .int), Cond.fieldLink RX6 18 "TestHall$Tape" "signs" "[C", Cond.fieldLink RX6 22 "TestHall$TextReader" "signs" "[C", Cond.fieldLink RX6 23 "TestHall$Tape" "length" "I", Cond.fieldLink RX6 27 "TestHall$TextReader" "length" "I", Cond.fieldLink RX6 28 "TestHall$TextReader" "text" "LTestHall$Text;", Cond.fieldLink RX6 40 "TestHall$TextReader" "next" "I", Cond.fieldLink RX6 43 "TestHall$TextReader" "fault" "I", Cond.methodLink RX6 32 yX5_clear, Cond.instanceMethod yX5_clear, Cond.selects RX5 yX5_clear yX5_clear, Cond.code yX5_clear cX5_clear 1 none, Cond.fieldLink RX5 24 "TestHall$Text" "lines" "I", Cond.fieldLink RX5 28 "TestHall$Text" "size" "I", Cond.methodLink RX6 37 yX6_scan, Cond.instanceMethod yX6_scan, Cond.selects RX6 yX6_scan yX6_scan, Cond.code yX6_scan cX6_scan 3 none, Cond.fieldLink RX6 59 "TestHall$TextReader" "size" "I"]
def wsL_law0_r14 : List Cond := [Cond.methodLink RX6 88 yX6_isBlank, Cond.static yX6_isBlank, Cond.code yX6_isBlank cX6_isBlank 1 (some .boolean), Cond.methodLink RX6 92 yX6_endOf, Cond.instanceMethod yX6_endOf, Cond.selects RX6 yX6_endOf yX6_endOf, Cond.code yX6_endOf cX6_endOf 5 (some .int), Cond.methodLink RX6 104 yX6_isLetter, Cond.static yX6_isLetter, Cond.code yX6_isLetter cX6_isLetter 1 (some .boolean), Cond.methodLink RX6 107 yX6_isDigit, Cond.static yX6_isDigit, Cond.code yX6_isDigit cX6_isDigit 1 (some .boolean), Cond.methodLink RX6 96 yX6_tokenOf, Cond.instanceMethod yX6_tokenOf, Cond.selects RX6 yX6_tokenOf yX6_tokenOf, Cond.code yX6_tokenOf cX6_tokenOf 3 (some .int), Cond.methodLink RX6 110 yX6_wordOf, Cond.instanceMethod yX6_wordOf, Cond.selects RX6 yX6_wordOf yX6_wordOf, Cond.code yX6_wordOf cX6_wordOf 3 (some .int), Cond.methodLink RX6 122 yX6_isSpelt, Cond.instanceMethod yX6_isSpelt, Cond.selects RX6 yX6_isSpelt yX6_isSpelt]
def wsL_law0_r15 : List Cond := [Cond.code yX6_isSpelt cX6_isSpelt 5 (some .boolean), Cond.methodLink RX6 142 yJ0_length_8abf5, Cond.instanceMethod yJ0_length_8abf5, Cond.selects RJ0 yJ0_length_8abf5 yJ0_length_8abf5, Cond.initialized RJ0, Cond.code yJ0_length_8abf5 cJ0_length_8abf5 1 (some .int), Cond.fieldLink RJ0 9 "java/lang/String" "value" "[B", Cond.methodLink RJ0 335 yJ0_coder_7d493, Cond.instanceMethod yJ0_coder_7d493, Cond.selects RJ0 yJ0_coder_7d493 yJ0_coder_7d493, Cond.code yJ0_coder_7d493 cJ0_coder_7d493 1 (some .byte), Cond.fieldLink RJ0 38 "java/lang/String" "COMPACT_STRINGS" "Z", Cond.fieldLink RJ0 15 "java/lang/String" "coder" "B", Cond.methodLink RX6 146 yJ0_charAt_5068e, Cond.instanceMethod yJ0_charAt_5068e, Cond.selects RJ0 yJ0_charAt_5068e yJ0_charAt_5068e, Cond.code yJ0_charAt_5068e cJ0_charAt_5068e 2 (some .char), Cond.methodLink RJ0 492 yJ0_isLatin1_aae02, Cond.instanceMethod yJ0_isLatin1_aae02, Cond.selects RJ0 yJ0_isLatin1_aae02 yJ0_isLatin1_aae02, Cond.code yJ0_isLatin1_aae02 cJ0_isLatin1_aae02 1 (some .boolean), Cond.methodLink RJ0 495 yJ1_charAt_3b067, Cond.static yJ1_charAt_3b067, Cond.initialized RJ1]
def wsL_law0_r16 : List Cond := [Cond.code yJ1_charAt_3b067 cJ1_charAt_3b067 2 (some .char), Cond.methodLink RJ1 9 yJ0_checkIndex_df160, Cond.static yJ0_checkIndex_df160, Cond.code yJ0_checkIndex_df160 cJ0_checkIndex_df160 2 none, Cond.fieldLink RJ0 1053 "jdk/internal/util/Preconditions" "SIOOBE_FORMATTER" "Ljava/util/function/BiFunction;", Cond.methodLink RJ0 1059 yJ3_checkIndex_8e157, Cond.static yJ3_checkIndex_8e157, Cond.initialized RJ3, Cond.code yJ3_checkIndex_8e157 cJ3_checkIndex_8e157 3 (some .int), Cond.methodLink RJ0 498 yJ2_charAt_3b067, Cond.static yJ2_charAt_3b067, Cond.initialized RJ2, Cond.code yJ2_charAt_3b067 cJ2_charAt_3b067 2 (some .char), Cond.methodLink RJ2 67 yJ2_checkIndex_2214a, Cond.static yJ2_checkIndex_2214a, Cond.code yJ2_checkIndex_2214a cJ2_checkIndex_2214a 2 none, Cond.methodLink RJ2 48 yJ2_length_9d52b, Cond.static yJ2_length_9d52b, Cond.code yJ2_length_9d52b cJ2_length_9d52b 1 (some .int), Cond.methodLink RJ2 414 yJ0_checkIndex_df160, Cond.methodLink RJ2 71 yJ2_getChar_3b067, Cond.static yJ2_getChar_3b067, Cond.code yJ2_getChar_3b067 cJ2_getChar_3b067 2 (some .char), Cond.fieldLink RJ2 44 "java/lang/StringUTF16" "$assertionsDisabled" "Z"]
def wsL_law0_r17 : List Cond := [Cond.fieldLink RJ2 59 "java/lang/StringUTF16" "HI_BYTE_SHIFT" "I", Cond.fieldLink RJ2 63 "java/lang/StringUTF16" "LO_BYTE_SHIFT" "I", Cond.methodLink RX6 113 yX6_numberOf, Cond.instanceMethod yX6_numberOf, Cond.selects RX6 yX6_numberOf yX6_numberOf, Cond.code yX6_numberOf cX6_numberOf 5 (some .int), Cond.methodLink RX6 116 yX6_signOf, Cond.static yX6_signOf, Cond.code yX6_signOf cX6_signOf 1 (some .int), Cond.methodLink RX6 100 yX6_addToken, Cond.instanceMethod yX6_addToken, Cond.selects RX6 yX6_addToken yX6_addToken, Cond.code yX6_addToken cX6_addToken 3 none, Cond.methodLink RX6 46 yX6_peek, Cond.instanceMethod yX6_peek, Cond.selects RX6 yX6_peek yX6_peek, Cond.code yX6_peek cX6_peek 1 (some .int), Cond.methodLink RX6 52 yX6_readLine, Cond.instanceMethod yX6_readLine, Cond.selects RX6 yX6_readLine yX6_readLine, Cond.code yX6_readLine cX6_readLine 2 (some .boolean), Cond.fieldLink RX6 62 "TestHall$Text" "lines" "I", Cond.methodLink RX6 65 yX6_take, Cond.instanceMethod yX6_take]
def wsL_law0_r18 : List Cond := [Cond.selects RX6 yX6_take yX6_take, Cond.code yX6_take cX6_take 2 (some .boolean), Cond.methodLink RX6 69 yX6_readCondition, Cond.instanceMethod yX6_readCondition, Cond.selects RX6 yX6_readCondition yX6_readCondition, Cond.code yX6_readCondition cX6_readCondition 3 (some .boolean), Cond.methodLink RX6 76 yX6_readTest, Cond.instanceMethod yX6_readTest, Cond.selects RX6 yX6_readTest yX6_readTest, Cond.methodLink RX6 79 yX5_addCode, Cond.instanceMethod yX5_addCode, Cond.selects RX5 yX5_addCode yX5_addCode, Cond.code yX5_addCode cX5_addCode 2 none, Cond.code yX6_readPart cX6_readPart 3 (some .boolean), Cond.code yX6_readSum cX6_readSum 4 (some .boolean), Cond.methodLink RX6 85 yX6_readPart, Cond.instanceMethod yX6_readPart, Cond.selects RX6 yX6_readPart yX6_readPart, Cond.code yX6_readTest cX6_readTest 3 (some .boolean), Cond.methodLink RX6 82 yX6_readSum, Cond.instanceMethod yX6_readSum, Cond.selects RX6 yX6_readSum yX6_readSum, Cond.methodLink RX6 72 yX5_addLine, Cond.instanceMethod yX5_addLine]
def wsL_law0_r19 : List Cond := [Cond.selects RX5 yX5_addLine yX5_addLine, Cond.code yX5_addLine cX5_addLine 2 none, Cond.methodLink RX6 56 yX6_placeOfNext, Cond.instanceMethod yX6_placeOfNext, Cond.selects RX6 yX6_placeOfNext yX6_placeOfNext, Cond.code yX6_placeOfNext cX6_placeOfNext 1 (some .int), Cond.methodLink RL 44 yX9_text, Cond.instanceMethod yX9_text, Cond.selects RX9 yX9_text yX9_text, Cond.code yX9_text cX9_text 1 (some .int), Cond.fieldLink RX9 211 "TestHallModel" "holds" "I", Cond.fieldLink RX9 202 "TestHallModel" "next" "I", Cond.fieldLink RX9 205 "TestHallModel" "codes" "I", Cond.fieldLink RX9 186 "TestHallModel" "fault" "I", Cond.fieldLink RX9 183 "TestHallModel" "at" "I", Cond.methodLink RX9 208 yX9_cutAll, Cond.instanceMethod yX9_cutAll, Cond.selects RX9 yX9_cutAll yX9_cutAll, Cond.code yX9_cutAll cX9_cutAll 7 none, Cond.fieldLink RX9 165 "TestHallModel" "size" "I", Cond.constantLong RX9 168 (37), Cond.constantLong RX9 176 (10), Cond.constantLong RX9 178 (48), Cond.methodLink RX9 161 yX9_isLetter]
def wsL_law0_r20 : List Cond := [Cond.static yX9_isLetter, Cond.code yX9_isLetter cX9_isLetter 1 (some .boolean), Cond.methodLink RX9 170 yX9_rank, Cond.static yX9_rank, Cond.code yX9_rank cX9_rank 1 (some .int), Cond.methodLink RX9 173 yX9_isDigit, Cond.static yX9_isDigit, Cond.code yX9_isDigit cX9_isDigit 1 (some .boolean), Cond.methodLink RX9 180 yX9_isSignOf, Cond.static yX9_isSignOf, Cond.code yX9_isSignOf cX9_isSignOf 1 (some .boolean), Cond.methodLink RX9 214 yX9_line, Cond.instanceMethod yX9_line, Cond.selects RX9 yX9_line yX9_line, Cond.code yX9_line cX9_line 3 none, Cond.constantLong RX9 217 (99), Cond.fieldLink RX9 222 "TestHallModel" "deep" "I", Cond.methodLink RX9 196 yX9_isWord, Cond.instanceMethod yX9_isWord, Cond.selects RX9 yX9_isWord yX9_isWord, Cond.code yX9_isWord cX9_isWord 2 (some .boolean), Cond.methodLink RX9 192 yX9_wrong, Cond.instanceMethod yX9_wrong, Cond.selects RX9 yX9_wrong yX9_wrong]
def wsL_law0_r21 : List Cond := [Cond.code yX9_wrong cX9_wrong 2 none, Cond.methodLink RX9 219 yX9_takeWord, Cond.instanceMethod yX9_takeWord, Cond.selects RX9 yX9_takeWord yX9_takeWord, Cond.code yX9_takeWord cX9_takeWord 2 none, Cond.methodLink RX9 199 yX9_hasWord, Cond.instanceMethod yX9_hasWord, Cond.selects RX9 yX9_hasWord yX9_hasWord, Cond.code yX9_hasWord cX9_hasWord 3 (some .boolean), Cond.methodLink RX9 225 yX9_opens, Cond.instanceMethod yX9_opens, Cond.selects RX9 yX9_opens yX9_opens, Cond.code yX9_opens cX9_opens 1 none, Cond.methodLink RX9 228 yX9_part, Cond.instanceMethod yX9_part, Cond.selects RX9 yX9_part yX9_part, Cond.code yX9_part cX9_part 2 (some .boolean), Cond.methodLink RX9 242 yX9_partWord, Cond.instanceMethod yX9_partWord, Cond.selects RX9 yX9_partWord yX9_partWord, Cond.code yX9_partWord cX9_partWord 2 (some .int), Cond.methodLink RX9 189 yX9_isSign, Cond.instanceMethod yX9_isSign, Cond.selects RX9 yX9_isSign yX9_isSign]
def wsL_law0_r22 : List Cond := [Cond.code yX9_isSign cX9_isSign 2 (some .boolean), Cond.methodLink RX9 246 yX9_hasSign, Cond.instanceMethod yX9_hasSign, Cond.selects RX9 yX9_hasSign yX9_hasSign, Cond.code yX9_hasSign cX9_hasSign 3 (some .boolean), Cond.methodLink RX9 235 yX9_emit, Cond.instanceMethod yX9_emit, Cond.selects RX9 yX9_emit yX9_emit, Cond.code yX9_emit cX9_emit 3 none, Cond.methodLink RX9 232 yX9_goesOnBehind, Cond.instanceMethod yX9_goesOnBehind, Cond.selects RX9 yX9_goesOnBehind yX9_goesOnBehind, Cond.code yX9_goesOnBehind cX9_goesOnBehind 1 (some .boolean), Cond.methodLink RX9 239 yX9_takeSign, Cond.instanceMethod yX9_takeSign, Cond.selects RX9 yX9_takeSign yX9_takeSign, Cond.code yX9_takeSign cX9_takeSign 2 none, Cond.methodLink RL 45 yX8_deal, Cond.instanceMethod yX8_deal, Cond.selects RX8 yX8_deal yX8_deal, Cond.code yX8_deal cX8_deal 1 (some .int), Cond.methodLink RX8 130 yX8_lineUpWaiting, Cond.instanceMethod yX8_lineUpWaiting, Cond.selects RX8 yX8_lineUpWaiting yX8_lineUpWaiting]
def wsL_law0_r23 : List Cond := [Cond.code yX8_lineUpWaiting cX8_lineUpWaiting 2 none, Cond.methodLink RX8 160 yX2_clear, Cond.instanceMethod yX2_clear, Cond.selects RX2 yX2_clear yX2_clear, Cond.code yX2_clear cX2_clear 1 none, Cond.fieldLink RX2 18 "TestHall$Line" "size" "I", Cond.methodLink RX8 166 yX8_rankOf, Cond.instanceMethod yX8_rankOf, Cond.selects RX8 yX8_rankOf yX8_rankOf, Cond.code yX8_rankOf cX8_rankOf 2 (some .int), Cond.fieldLink RX8 266 "TestHall$Learner" "came" "I", Cond.fieldLink RX8 183 "TestHall$Learner" "tries" "I", Cond.methodLink RX8 269 yX5_rankBy, Cond.instanceMethod yX5_rankBy, Cond.selects RX5 yX5_rankBy yX5_rankBy, Cond.code yX5_rankBy cX5_rankBy 4 (some .int), Cond.methodLink RX5 31 yX5_valueOf, Cond.instanceMethod yX5_valueOf, Cond.selects RX5 yX5_valueOf yX5_valueOf, Cond.code yX5_valueOf cX5_valueOf 7 (some .int), Cond.methodLink RX5 37 yX5_joined, Cond.static yX5_joined, Cond.code yX5_joined cX5_joined 3 (some .int), Cond.methodLink RX8 170 yX2_add]
def wsL_law0_r24 : List Cond := [Cond.instanceMethod yX2_add, Cond.selects RX2 yX2_add yX2_add, Cond.code yX2_add cX2_add 4 none, Cond.methodLink RX8 133 yX8_dealLine, Cond.instanceMethod yX8_dealLine, Cond.selects RX8 yX8_dealLine yX8_dealLine, Cond.code yX8_dealLine cX8_dealLine 5 (some .int), Cond.fieldLink RX8 173 "TestHall$Line" "size" "I", Cond.fieldLink RX8 276 "TestHall$Line" "numbers" "[I", Cond.methodLink RX8 279 Lib.Math.max.name, Cond.static Lib.Math.max.name, Cond.initialized "java/lang/Math", Cond.code Lib.Math.max.name Lib.Math.max.code 2 (some .int), Cond.methodLink RX8 284 yX0_leastFree, Cond.instanceMethod yX0_leastFree, Cond.selects RX0 yX0_leastFree yX0_leastFree, Cond.code yX0_leastFree cX0_leastFree 6 (some .int), Cond.fieldLink RX0 60 "TestHall$Calendar" "now" "I", Cond.methodLink RX0 73 Lib.Math.max.name, Cond.methodLink RX0 78 yX0_leastFreeOn, Cond.instanceMethod yX0_leastFreeOn, Cond.selects RX0 yX0_leastFreeOn yX0_leastFreeOn, Cond.code yX0_leastFreeOn cX0_leastFreeOn 6 (some .int), Cond.methodLink RX0 81 yX0_firstFreeOf]
def wsL_law0_r25 : List Cond := [Cond.instanceMethod yX0_firstFreeOf, Cond.selects RX0 yX0_firstFreeOf yX0_firstFreeOf, Cond.code yX0_firstFreeOf cX0_firstFreeOf 4 (some .int), Cond.static yX8_slotOf, Cond.code yX8_slotOf cX8_slotOf 3 (some .int), Cond.methodLink RX0 88 yX0_isFree, Cond.instanceMethod yX0_isFree, Cond.selects RX0 yX0_isFree yX0_isFree, Cond.code yX0_isFree cX0_isFree 3 (some .boolean), Cond.methodLink RX0 69 yX0_hasHour, Cond.methodLink RX8 287 yX8_book, Cond.instanceMethod yX8_book, Cond.selects RX8 yX8_book yX8_book, Cond.code yX8_book cX8_book 3 none, Cond.methodLink RL 48 yX9_deal, Cond.instanceMethod yX9_deal, Cond.selects RX9 yX9_deal yX9_deal, Cond.code yX9_deal cX9_deal 2 (some .int), Cond.methodLink RX9 293 yX9_deals, Cond.instanceMethod yX9_deals, Cond.selects RX9 yX9_deals yX9_deals, Cond.code yX9_deals cX9_deals 4 (some .int), Cond.methodLink RX9 274 yX9_findRanks, Cond.instanceMethod yX9_findRanks]
def wsL_law0_r26 : List Cond := [Cond.selects RX9 yX9_findRanks yX9_findRanks, Cond.code yX9_findRanks cX9_findRanks 2 none, Cond.methodLink RX9 271 yX9_rankOf, Cond.instanceMethod yX9_rankOf, Cond.selects RX9 yX9_rankOf yX9_rankOf, Cond.code yX9_rankOf cX9_rankOf 3 (some .int), Cond.methodLink RX9 268 yX9_worth, Cond.instanceMethod yX9_worth, Cond.selects RX9 yX9_worth yX9_worth, Cond.code yX9_worth cX9_worth 7 (some .int), Cond.methodLink RX9 277 yX9_firstDealt, Cond.instanceMethod yX9_firstDealt, Cond.selects RX9 yX9_firstDealt yX9_firstDealt, Cond.code yX9_firstDealt cX9_firstDealt 3 (some .int), Cond.methodLink RX9 290 yX9_isAhead, Cond.instanceMethod yX9_isAhead, Cond.selects RX9 yX9_isAhead yX9_isAhead, Cond.code yX9_isAhead cX9_isAhead 3 (some .boolean), Cond.methodLink RX9 280 yX9_isFree, Cond.instanceMethod yX9_isFree, Cond.selects RX9 yX9_isFree yX9_isFree, Cond.code yX9_isFree cX9_isFree 2 (some .boolean), Cond.methodLink RX9 265 yX9_bookedAt, Cond.instanceMethod yX9_bookedAt]
def wsL_law0_r27 : List Cond := [Cond.selects RX9 yX9_bookedAt yX9_bookedAt, Cond.code yX9_bookedAt cX9_bookedAt 4 (some .int), Cond.methodLink RX9 283 yX9_suits, Cond.instanceMethod yX9_suits, Cond.selects RX9 yX9_suits yX9_suits, Cond.code yX9_suits cX9_suits 4 (some .boolean), Cond.methodLink RX9 287 yX9_books, Cond.instanceMethod yX9_books, Cond.selects RX9 yX9_books yX9_books, Cond.code yX9_books cX9_books 3 none, Cond.methodLink RL 49 yX8_cancel, Cond.instanceMethod yX8_cancel, Cond.selects RX8 yX8_cancel yX8_cancel, Cond.code yX8_cancel cX8_cancel 4 (some .int), Cond.methodLink RX8 136 yX8_find, Cond.instanceMethod yX8_find, Cond.selects RX8 yX8_find yX8_find, Cond.code yX8_find cX8_find 2 (some (.object "TestHall$Learner")), Cond.methodLink RX8 150 yX8_moveUp, Cond.instanceMethod yX8_moveUp, Cond.selects RX8 yX8_moveUp yX8_moveUp, Cond.code yX8_moveUp cX8_moveUp 7 (some .int), Cond.fieldLink RX8 196 "TestHall$Learner" "movedUp" "I", Cond.methodLink RX8 291 yX8_lineUpSooner]
def wsL_law0_r28 : List Cond := [Cond.instanceMethod yX8_lineUpSooner, Cond.selects RX8 yX8_lineUpSooner yX8_lineUpSooner, Cond.code yX8_lineUpSooner cX8_lineUpSooner 2 none, Cond.methodLink RX8 294 yX0_isFree, Cond.methodLink RX8 297 yX8_firstToMove, Cond.instanceMethod yX8_firstToMove, Cond.selects RX8 yX8_firstToMove yX8_firstToMove, Cond.code yX8_firstToMove cX8_firstToMove 4 (some (.object "TestHall$Learner")), Cond.methodLink RX8 300 yX8_isSuiting, Cond.instanceMethod yX8_isSuiting, Cond.selects RX8 yX8_isSuiting yX8_isSuiting, Cond.code yX8_isSuiting cX8_isSuiting 5 (some .boolean), Cond.methodLink RL 53 yX9_cancel, Cond.instanceMethod yX9_cancel, Cond.selects RX9 yX9_cancel yX9_cancel, Cond.code yX9_cancel cX9_cancel 3 (some .int), Cond.methodLink RX9 296 yX9_isLearner, Cond.instanceMethod yX9_isLearner, Cond.selects RX9 yX9_isLearner yX9_isLearner, Cond.code yX9_isLearner cX9_isLearner 2 (some .boolean), Cond.methodLink RX9 302 yX9_movesUp, Cond.instanceMethod yX9_movesUp, Cond.selects RX9 yX9_movesUp yX9_movesUp, Cond.code yX9_movesUp cX9_movesUp 6 (some .int)]
def wsL_law0_r29 : List Cond := [Cond.methodLink RL 54 yX8_leave, Cond.instanceMethod yX8_leave, Cond.selects RX8 yX8_leave yX8_leave, Cond.code yX8_leave cX8_leave 4 (some .boolean), Cond.methodLink RL 58 yX9_leave, Cond.instanceMethod yX9_leave, Cond.selects RX9 yX9_leave yX9_leave, Cond.code yX9_leave cX9_leave 4 (some .boolean), Cond.methodLink RL 59 yX8_shut, Cond.instanceMethod yX8_shut, Cond.selects RX8 yX8_shut yX8_shut, Cond.code yX8_shut cX8_shut 4 (some .int), Cond.methodLink RX8 153 yX0_isShut, Cond.instanceMethod yX0_isShut, Cond.selects RX0 yX0_isShut yX0_isShut, Cond.code yX0_isShut cX0_isShut 2 (some .boolean), Cond.methodLink RX8 156 yX0_shutDay, Cond.instanceMethod yX0_shutDay, Cond.selects RX0 yX0_shutDay yX0_shutDay, Cond.code yX0_shutDay cX0_shutDay 2 none, Cond.methodLink RL 62 yX9_shut, Cond.instanceMethod yX9_shut, Cond.selects RX9 yX9_shut yX9_shut, Cond.code yX9_shut cX9_shut 4 (some .int)]
def wsL_law0_r30 : List Cond := [Cond.methodLink RL 63 yX8_days, Cond.instanceMethod yX8_days, Cond.selects RX8 yX8_days yX8_days, Cond.code yX8_days cX8_days 4 (some .int), Cond.methodLink RL 66 yX9_days, Cond.instanceMethod yX9_days, Cond.selects RX9 yX9_days yX9_days, Cond.code yX9_days cX9_days 3 (some .int), Cond.methodLink RL 67 yX8_held, Cond.instanceMethod yX8_held, Cond.selects RX8 yX8_held yX8_held, Cond.code yX8_held cX8_held 4 (some .boolean), Cond.methodLink RX8 179 yX0_noteTest, Cond.instanceMethod yX0_noteTest, Cond.selects RX0 yX0_noteTest yX0_noteTest, Cond.code yX0_noteTest cX0_noteTest 3 none, Cond.fieldLink RX0 91 "TestHall$Calendar" "allTests" "I", Cond.fieldLink RX0 94 "TestHall$Calendar" "allPasses" "I", Cond.methodLink RL 71 yX9_held, Cond.instanceMethod yX9_held, Cond.selects RX9 yX9_held yX9_held, Cond.code yX9_held cX9_held 4 (some .boolean), Cond.fieldLink RX9 305 "TestHallModel" "held" "I", Cond.methodLink RL 72 yL_look]
def wsL_law0_r31 : List Cond := [Cond.static yL_look, Cond.initialized RL, Cond.codeWith yL_look cL_look 5 (some .int) [(0, 10, 13, 13)], Cond.classLink RL 13 "java/util/NoSuchElementException", Cond.methodLink RL 7 yX8_look, Cond.instanceMethod yX8_look, Cond.selects RX8 yX8_look yX8_look, Cond.code yX8_look cX8_look 4 (some .int), Cond.classLink RX8 186 "java/util/NoSuchElementException", Cond.initialized "java/util/NoSuchElementException", Cond.methodLink RX8 193 yX8_placeAmongWaiting, Cond.instanceMethod yX8_placeAmongWaiting, Cond.selects RX8 yX8_placeAmongWaiting yX8_placeAmongWaiting, Cond.code yX8_placeAmongWaiting cX8_placeAmongWaiting 2 (some .int), Cond.methodLink RX8 273 yX2_placeOf, Cond.instanceMethod yX2_placeOf, Cond.selects RX2 yX2_placeOf yX2_placeOf, Cond.code yX2_placeOf cX2_placeOf 3 (some .int), Cond.methodLink RL 77 yX9_look, Cond.instanceMethod yX9_look, Cond.selects RX9 yX9_look yX9_look, Cond.code yX9_look cX9_look 3 (some .int), Cond.methodLink RX9 308 yX9_placeOf, Cond.instanceMethod yX9_placeOf]
def wsL_law0_r32 : List Cond := [Cond.selects RX9 yX9_placeOf yX9_placeOf, Cond.code yX9_placeOf cX9_placeOf 4 (some .int), Cond.methodLink RL 78 yX9_thrown, Cond.instanceMethod yX9_thrown, Cond.selects RX9 yX9_thrown yX9_thrown, Cond.code yX9_thrown cX9_thrown 1 (some .int), Cond.methodLink RL 81 yX8_at, Cond.instanceMethod yX8_at, Cond.selects RX8 yX8_at yX8_at, Cond.code yX8_at cX8_at 4 (some .int), Cond.methodLink RX8 204 yX8_slotOf, Cond.methodLink RX8 208 yX0_bookedIn, Cond.instanceMethod yX0_bookedIn, Cond.selects RX0 yX0_bookedIn yX0_bookedIn, Cond.code yX0_bookedIn cX0_bookedIn 2 (some .int), Cond.methodLink RL 85 yX9_at, Cond.instanceMethod yX9_at, Cond.selects RX9 yX9_at yX9_at, Cond.code yX9_at cX9_at 4 (some .int), Cond.methodLink RL 86 yX8_street, Cond.instanceMethod yX8_street, Cond.selects RX8 yX8_street yX8_street, Cond.code yX8_street cX8_street 5 (some .int), Cond.methodLink RX8 211 yX3_add]
def wsL_law0_r33 : List Cond := [Cond.instanceMethod yX3_add, Cond.selects RX3 yX3_add yX3_add, Cond.code yX3_add cX3_add 5 (some .int), Cond.fieldLink RX3 46 "TestHall$Streets" "size" "I", Cond.methodLink RX3 42 yX3_hasRoomAt, Cond.instanceMethod yX3_hasRoomAt, Cond.selects RX3 yX3_hasRoomAt yX3_hasRoomAt, Cond.code yX3_hasRoomAt cX3_hasRoomAt 2 (some .boolean), Cond.methodLink RX3 54 yX3_putAt, Cond.instanceMethod yX3_putAt, Cond.selects RX3 yX3_putAt yX3_putAt, Cond.code yX3_putAt cX3_putAt 3 none, Cond.methodLink RL 89 yX9_street, Cond.instanceMethod yX9_street, Cond.selects RX9 yX9_street yX9_street, Cond.code yX9_street cX9_street 5 (some .int), Cond.fieldLink RX9 311 "TestHallModel" "streets" "I", Cond.methodLink RX9 314 yX9_streetsAt, Cond.instanceMethod yX9_streetsAt, Cond.selects RX9 yX9_streetsAt yX9_streetsAt, Cond.code yX9_streetsAt cX9_streetsAt 4 (some .int), Cond.methodLink RL 90 yX8_close, Cond.instanceMethod yX8_close, Cond.selects RX8 yX8_close yX8_close]
def wsL_law0_r34 : List Cond := [Cond.code yX8_close cX8_close 3 (some .boolean), Cond.methodLink RX8 214 yX3_setClosed, Cond.instanceMethod yX3_setClosed, Cond.selects RX3 yX3_setClosed yX3_setClosed, Cond.code yX3_setClosed cX3_setClosed 3 (some .boolean), Cond.methodLink RL 93 yX9_close, Cond.instanceMethod yX9_close, Cond.selects RX9 yX9_close yX9_close, Cond.code yX9_close cX9_close 3 (some .boolean), Cond.methodLink RL 94 yX8_routes, Cond.instanceMethod yX8_routes, Cond.selects RX8 yX8_routes yX8_routes, Cond.code yX8_routes cX8_routes 4 (some .int), Cond.methodLink RX8 218 yX3_countRoutes, Cond.instanceMethod yX3_countRoutes, Cond.selects RX3 yX3_countRoutes yX3_countRoutes, Cond.code yX3_countRoutes cX3_countRoutes 5 (some .int), Cond.fieldLink RX3 58 "TestHall$Streets" "least" "I", Cond.fieldLink RX3 61 "TestHall$Streets" "most" "I", Cond.fieldLink RX3 64 "TestHall$Streets" "wanted" "I", Cond.fieldLink RX3 71 "TestHall$Streets" "found" "I", Cond.methodLink RX3 67 yX3_search, Cond.instanceMethod yX3_search, Cond.selects RX3 yX3_search yX3_search]
def wsL_law0_r35 : List Cond := [Cond.code yX3_search cX3_search 2 none, Cond.fieldLink RX3 93 "TestHall$Streets" "target" "I", Cond.methodLink RX3 96 yX3_walk, Cond.instanceMethod yX3_walk, Cond.selects RX3 yX3_walk yX3_walk, Cond.code yX3_walk cX3_walk 12 (some .boolean), Cond.methodLink RX3 100 yX3_isTarget, Cond.instanceMethod yX3_isTarget, Cond.selects RX3 yX3_isTarget yX3_isTarget, Cond.code yX3_isTarget cX3_isTarget 4 (some .boolean), Cond.fieldLink RX3 84 "TestHall$Streets" "foundParts" "I", Cond.fieldLink RX3 90 "TestHall$Streets" "foundMinutes" "I", Cond.methodLink RL 97 yX9_routes, Cond.instanceMethod yX9_routes, Cond.selects RX9 yX9_routes yX9_routes, Cond.code yX9_routes cX9_routes 4 (some .int), Cond.methodLink RX9 348 yX9_areNumbers, Cond.static yX9_areNumbers, Cond.code yX9_areNumbers cX9_areNumbers 3 (some .boolean), Cond.methodLink RX9 351 yX9_countAll, Cond.instanceMethod yX9_countAll, Cond.selects RX9 yX9_countAll yX9_countAll, Cond.code yX9_countAll cX9_countAll 5 (some .int), Cond.fieldLink RX9 327 "TestHallModel" "wantLeast" "I"]
def wsL_law0_r36 : List Cond := [Cond.fieldLink RX9 330 "TestHallModel" "wantMost" "I", Cond.fieldLink RX9 333 "TestHallModel" "wantMarks" "I", Cond.fieldLink RX9 339 "TestHallModel" "wanted" "I", Cond.fieldLink RX9 336 "TestHallModel" "found" "I", Cond.fieldLink RX9 317 "TestHallModel" "wayMany" "I", Cond.methodLink RX9 323 yX9_goes, Cond.instanceMethod yX9_goes, Cond.selects RX9 yX9_goes yX9_goes, Cond.code yX9_goes cX9_goes 5 none, Cond.methodLink RX9 320 yX9_ends, Cond.instanceMethod yX9_ends, Cond.selects RX9 yX9_ends yX9_ends, Cond.code yX9_ends cX9_ends 4 none, Cond.fieldLink RX9 342 "TestHallModel" "drawnMany" "I", Cond.fieldLink RX9 345 "TestHallModel" "drawnMinutes" "I", Cond.methodLink RL 98 yX8_route, Cond.instanceMethod yX8_route, Cond.selects RX8 yX8_route yX8_route, Cond.code yX8_route cX8_route 5 (some .int), Cond.methodLink RX8 221 yX3_draw, Cond.instanceMethod yX3_draw, Cond.selects RX3 yX3_draw yX3_draw, Cond.code yX3_draw cX3_draw 6 (some .int), Cond.methodLink RX3 78 arraycopyName]
def wsL_law0_r37 : List Cond := [Cond.native arraycopyName, Cond.static arraycopyName, Cond.initialized "java/lang/System", Cond.fieldLink RX3 87 "TestHall$Streets" "drawnParts" "I", Cond.methodLink RX3 74 yX3_countRoutes, Cond.methodLink RL 101 yX9_route, Cond.instanceMethod yX9_route, Cond.selects RX9 yX9_route yX9_route, Cond.code yX9_route cX9_route 7 (some .int), Cond.methodLink RL 102 yX8_part, Cond.instanceMethod yX8_part, Cond.selects RX8 yX8_part yX8_part, Cond.code yX8_part cX8_part 2 (some .int), Cond.methodLink RX8 224 yX3_drawnStreet, Cond.instanceMethod yX3_drawnStreet, Cond.selects RX3 yX3_drawnStreet yX3_drawnStreet, Cond.code yX3_drawnStreet cX3_drawnStreet 2 (some .int), Cond.methodLink RL 105 yX9_part_, Cond.instanceMethod yX9_part_, Cond.selects RX9 yX9_part_ yX9_part_, Cond.code yX9_part_ cX9_part_ 2 (some .int), Cond.methodLink RL 106 yX8_differs, Cond.instanceMethod yX8_differs, Cond.selects RX8 yX8_differs yX8_differs]
def wsL_law0_r38 : List Cond := [Cond.code yX8_differs cX8_differs 3 (some .int), Cond.methodLink RX8 227 yX0_difference, Cond.instanceMethod yX0_difference, Cond.selects RX0 yX0_difference yX0_difference, Cond.code yX0_difference cX0_difference 15 (some .int), Cond.constantLong RX0 103 (100), Cond.methodLink RX0 97 yX0_testsOf, Cond.instanceMethod yX0_testsOf, Cond.selects RX0 yX0_testsOf yX0_testsOf, Cond.code yX0_testsOf cX0_testsOf 2 (some .int), Cond.methodLink RX0 100 yX0_passesOf, Cond.instanceMethod yX0_passesOf, Cond.selects RX0 yX0_passesOf yX0_passesOf, Cond.code yX0_passesOf cX0_passesOf 2 (some .int), Cond.methodLink RL 109 yX9_differs, Cond.instanceMethod yX9_differs, Cond.selects RX9 yX9_differs yX9_differs, Cond.code yX9_differs cX9_differs 11 (some .int), Cond.constantLong RX9 355 (100), Cond.methodLink RL 110 yX8_count, Cond.instanceMethod yX8_count, Cond.selects RX8 yX8_count yX8_count, Cond.code yX8_count cX8_count 2 (some .int), Cond.fieldLink RX8 231 "TestHall$Calendar" "examiners" "I"]
def wsL_law0_r39 : List Cond := [Cond.fieldLink RX8 237 "TestHall$Text" "lines" "I", Cond.fieldLink RX8 240 "TestHall$Streets" "size" "I", Cond.fieldLink RX8 241 "TestHall$Calendar" "allTests" "I", Cond.methodLink RX8 234 yX8_countOfState, Cond.instanceMethod yX8_countOfState, Cond.selects RX8 yX8_countOfState yX8_countOfState, Cond.code yX8_countOfState cX8_countOfState 4 (some .int), Cond.methodLink RL 113 yX9_count, Cond.instanceMethod yX9_count, Cond.selects RX9 yX9_count yX9_count, Cond.code yX9_count cX9_count 2 (some .int), Cond.methodLink RX9 357 yX9_learnersThat, Cond.instanceMethod yX9_learnersThat, Cond.selects RX9 yX9_learnersThat yX9_learnersThat, Cond.code yX9_learnersThat cX9_learnersThat 4 (some .int), Cond.methodLink RL 114 yX8_load, Cond.instanceMethod yX8_load, Cond.selects RX8 yX8_load yX8_load, Cond.code yX8_load cX8_load 3 (some .int), Cond.methodLink RX8 244 yX0_testsOf, Cond.methodLink RX8 247 yX0_passesOf, Cond.methodLink RX8 250 yX8_countBookedWith, Cond.instanceMethod yX8_countBookedWith, Cond.selects RX8 yX8_countBookedWith yX8_countBookedWith]
def wsL_law0_r40 : List Cond := [Cond.code yX8_countBookedWith cX8_countBookedWith 4 (some .int), Cond.methodLink RL 117 yX9_load, Cond.instanceMethod yX9_load, Cond.selects RX9 yX9_load yX9_load, Cond.code yX9_load cX9_load 5 (some .int)]
def wsL_law0 : List Cond := (wsL_law0_r1 ++ (wsL_law0_r2 ++ (wsL_law0_r3 ++ (wsL_law0_r4 ++ (wsL_law0_r5 ++ (wsL_law0_r6 ++ (wsL_law0_r7 ++ (wsL_law0_r8 ++ (wsL_law0_r9 ++ (wsL_law0_r10 ++ (wsL_law0_r11 ++ (wsL_law0_r12 ++ (wsL_law0_r13 ++ (wsL_law0_r14 ++ (wsL_law0_r15 ++ (wsL_law0_r16 ++ (wsL_law0_r17 ++ (wsL_law0_r18 ++ (wsL_law0_r19 ++ (wsL_law0_r20 ++ (wsL_law0_r21 ++ (wsL_law0_r22 ++ (wsL_law0_r23 ++ (wsL_law0_r24 ++ (wsL_law0_r25 ++ (wsL_law0_r26 ++ (wsL_law0_r27 ++ (wsL_law0_r28 ++ (wsL_law0_r29 ++ (wsL_law0_r30 ++ (wsL_law0_r31 ++ (wsL_law0_r32 ++ (wsL_law0_r33 ++ (wsL_law0_r34 ++ (wsL_law0_r35 ++ (wsL_law0_r36 ++ (wsL_law0_r37 ++ (wsL_law0_r38 ++ (wsL_law0_r39 ++ wsL_law0_r40))))))))))))))))))))))))))))))))))))))) ++ wsX80 ++ wsX90 ++ wsX00 ++ wsX20 ++ wsX40 ++ wsX60 ++ wsX30 ++ wsX50 ++ wsX10 ++ ([] : List Cond)
def wsL_law : List Cond := wsL_law0 ++ (vx_atS RX8 190 "java/util/NoSuchElementException" ["java/lang/RuntimeException", "java/lang/Exception"]).filter goodWord
end
section
set_option maxRecDepth 20000 in
theorem ggX0_init_J7_fill_53178 : GoodIn wsX0_init wsJ7_fill_53178 := goodIn_r _ [14] (by decide +kernel) (by decide +kernel)
set_option maxRecDepth 20000 in
theorem gX0_init_J7_fill_53178 : GoodIn wsX0_init (va_wsS RX0 28 yJ7_fill_53178 wsJ7_fill_53178) := goodIn_app (goodIn_of _ (by decide +kernel)) ggX0_init_J7_fill_53178
theorem dX0_init_0 : decode cX0_init 0 = .ok (.aload_n 0, 1) := by decide +kernel
theorem dX0_init_1 : decode cX0_init 1 = .ok (.invokespecial 3, 3) := by decide +kernel
theorem dX0_init_4 : decode cX0_init 4 = .ok (.aload_n 0, 1) := by decide +kernel
theorem dX0_init_5 : decode cX0_init 5 = .ok (.sipush 480, 3) := by decide +kernel
theorem dX0_init_8 : decode cX0_init 8 = .ok (.newarray .int, 2) := by decide +kernel
theorem dX0_init_10 : decode cX0_init 10 = .ok (.putfield 9, 3) := by decide +kernel
theorem dX0_init_13 : decode cX0_init 13 = .ok (.aload_n 0, 1) := by decide +kernel
theorem dX0_init_14 : decode cX0_init 14 = .ok (.bipush 60, 2) := by decide +kernel
theorem dX0_init_16 : decode cX0_init 16 = .ok (.newarray .boolean, 2) := by decide +kernel
theorem dX0_init_18 : decode cX0_init 18 = .ok (.putfield 15, 3) := by decide +kernel
theorem dX0_init_21 : decode cX0_init 21 = .ok (.aload_n 0, 1) := by decide +kernel
theorem dX0_init_22 : decode cX0_init 22 = .ok (.sipush 2880, 3) := by decide +kernel
theorem dX0_init_25 : decode cX0_init 25 = .ok (.newarray .int, 2) := by decide +kernel
theorem dX0_init_27 : decode cX0_init 27 = .ok (.putfield 19, 3) := by decide +kernel
theorem dX0_init_30 : decode cX0_init 30 = .ok (.aload_n 0, 1) := by decide +kernel
theorem dX0_init_31 : decode cX0_init 31 = .ok (.bipush 8, 2) := by decide +kernel
theorem dX0_init_33 : decode cX0_init 33 = .ok (.newarray .int, 2) := by decide +kernel
theorem dX0_init_35 : decode cX0_init 35 = .ok (.putfield 22, 3) := by decide +kernel
theorem dX0_init_38 : decode cX0_init 38 = .ok (.aload_n 0, 1) := by decide +kernel
theorem dX0_init_39 : decode cX0_init 39 = .ok (.bipush 8, 2) := by decide +kernel
theorem dX0_init_41 : decode cX0_init 41 = .ok (.newarray .int, 2) := by decide +kernel
theorem dX0_init_43 : decode cX0_init 43 = .ok (.putfield 25, 3) := by decide +kernel
theorem dX0_init_46 : decode cX0_init 46 = .ok (.aload_n 0, 1) := by decide +kernel
theorem dX0_init_47 : decode cX0_init 47 = .ok (.getfield 9, 3) := by decide +kernel
theorem dX0_init_50 : decode cX0_init 50 = .ok (.iconst (-1), 1) := by decide +kernel
theorem dX0_init_51 : decode cX0_init 51 = .ok (.invokestatic 28, 3) := by decide +kernel
theorem dX0_init_54 : decode cX0_init 54 = .ok (.aload_n 0, 1) := by decide +kernel
theorem dX0_init_55 : decode cX0_init 55 = .ok (.getfield 19, 3) := by decide +kernel
theorem dX0_init_58 : decode cX0_init 58 = .ok (.iconst (-1), 1) := by decide +kernel
theorem dX0_init_59 : decode cX0_init 59 = .ok (.invokestatic 28, 3) := by decide +kernel
theorem dX0_init_62 : decode cX0_init 62 = .ok (.return_, 1) := by decide +kernel
theorem dX0_addExaminer_0 : decode cX0_addExaminer 0 = .ok (.aload_n 0, 1) := by decide +kernel
theorem dX0_addExaminer_1 : decode cX0_addExaminer 1 = .ok (.getfield 34, 3) := by decide +kernel
theorem dX0_addExaminer_4 : decode cX0_addExaminer 4 = .ok (.bipush 8, 2) := by decide +kernel
theorem dX0_addExaminer_6 : decode cX0_addExaminer 6 = .ok (.if_icmp .lt 5, 3) := by decide +kernel
theorem dX0_addExaminer_9 : decode cX0_addExaminer 9 = .ok (.iconst (-1), 1) := by decide +kernel
theorem dX0_addExaminer_10 : decode cX0_addExaminer 10 = .ok (.ireturn, 1) := by decide +kernel
theorem dX0_addExaminer_11 : decode cX0_addExaminer 11 = .ok (.aload_n 0, 1) := by decide +kernel
theorem dX0_addExaminer_12 : decode cX0_addExaminer 12 = .ok (.dup, 1) := by decide +kernel
theorem dX0_addExaminer_13 : decode cX0_addExaminer 13 = .ok (.getfield 34, 3) := by decide +kernel
theorem dX0_addExaminer_16 : decode cX0_addExaminer 16 = .ok (.iconst 1, 1) := by decide +kernel
theorem dX0_addExaminer_17 : decode cX0_addExaminer 17 = .ok (.iadd, 1) := by decide +kernel
theorem dX0_addExaminer_18 : decode cX0_addExaminer 18 = .ok (.putfield 34, 3) := by decide +kernel
theorem dX0_addExaminer_21 : decode cX0_addExaminer 21 = .ok (.aload_n 0, 1) := by decide +kernel
theorem dX0_addExaminer_22 : decode cX0_addExaminer 22 = .ok (.getfield 34, 3) := by decide +kernel
theorem dX0_addExaminer_25 : decode cX0_addExaminer 25 = .ok (.iconst 1, 1) := by decide +kernel
theorem dX0_addExaminer_26 : decode cX0_addExaminer 26 = .ok (.isub, 1) := by decide +kernel
theorem dX0_addExaminer_27 : decode cX0_addExaminer 27 = .ok (.ireturn, 1) := by decide +kernel
theorem dX0_isExaminer_0 : decode cX0_isExaminer 0 = .ok (.iload_n 1, 1) := by decide +kernel
theorem dX0_isExaminer_1 : decode cX0_isExaminer 1 = .ok (.ifCond .lt 15, 3) := by decide +kernel
theorem dX0_isExaminer_4 : decode cX0_isExaminer 4 = .ok (.iload_n 1, 1) := by decide +kernel
theorem dX0_isExaminer_5 : decode cX0_isExaminer 5 = .ok (.aload_n 0, 1) := by decide +kernel
theorem dX0_isExaminer_6 : decode cX0_isExaminer 6 = .ok (.getfield 34, 3) := by decide +kernel
theorem dX0_isExaminer_9 : decode cX0_isExaminer 9 = .ok (.if_icmp .ge 7, 3) := by decide +kernel
theorem dX0_isExaminer_12 : decode cX0_isExaminer 12 = .ok (.iconst 1, 1) := by decide +kernel
theorem dX0_isExaminer_13 : decode cX0_isExaminer 13 = .ok (.goto 4, 3) := by decide +kernel
theorem dX0_isExaminer_16 : decode cX0_isExaminer 16 = .ok (.iconst 0, 1) := by decide +kernel
theorem dX0_isExaminer_17 : decode cX0_isExaminer 17 = .ok (.ireturn, 1) := by decide +kernel
set_option maxRecDepth 20000 in
theorem ggX0_setTown_X0_isExaminer : GoodIn wsX0_setTown wsX0_isExaminer := goodIn_r _ [6, 7, 11, 12, 13, 14, 15, 16, 17, 18, 19] (by decide +kernel) (by decide +kernel)
set_option maxRecDepth 20000 in
theorem gX0_setTown_X0_isExaminer : GoodIn wsX0_setTown (wsV RX0 38 RX0 yX0_isExaminer wsX0_isExaminer) := goodIn_app (goodIn_of _ (by decide +kernel)) ggX0_setTown_X0_isExaminer
set_option maxRecDepth 20000 in
theorem ggX0_setTown_X8_isDay : GoodIn wsX0_setTown wsX8_isDay := goodIn_r _ [10] (by decide +kernel) (by decide +kernel)
set_option maxRecDepth 20000 in
theorem gX0_setTown_X8_isDay_n42 : GoodIn wsX0_setTown (wsX8_isDay) := ggX0_setTown_X8_isDay
theorem dX0_setTown_0 : decode cX0_setTown 0 = .ok (.aload_n 0, 1) := by decide +kernel
theorem dX0_setTown_1 : decode cX0_setTown 1 = .ok (.iload_n 1, 1) := by decide +kernel
theorem dX0_setTown_2 : decode cX0_setTown 2 = .ok (.invokevirtual 38, 3) := by decide +kernel
theorem dX0_setTown_5 : decode cX0_setTown 5 = .ok (.ifCond .eq 22, 3) := by decide +kernel
theorem dX0_setTown_8 : decode cX0_setTown 8 = .ok (.iload_n 2, 1) := by decide +kernel
theorem dX0_setTown_9 : decode cX0_setTown 9 = .ok (.invokestatic 42, 3) := by decide +kernel
theorem dX0_setTown_12 : decode cX0_setTown 12 = .ok (.ifCond .eq 15, 3) := by decide +kernel
theorem dX0_setTown_15 : decode cX0_setTown 15 = .ok (.aload_n 0, 1) := by decide +kernel
theorem dX0_setTown_16 : decode cX0_setTown 16 = .ok (.getfield 9, 3) := by decide +kernel
theorem dX0_setTown_19 : decode cX0_setTown 19 = .ok (.bipush 60, 2) := by decide +kernel
theorem dX0_setTown_21 : decode cX0_setTown 21 = .ok (.iload_n 1, 1) := by decide +kernel
theorem dX0_setTown_22 : decode cX0_setTown 22 = .ok (.imul, 1) := by decide +kernel
theorem dX0_setTown_23 : decode cX0_setTown 23 = .ok (.iload_n 2, 1) := by decide +kernel
theorem dX0_setTown_24 : decode cX0_setTown 24 = .ok (.iadd, 1) := by decide +kernel
theorem dX0_setTown_25 : decode cX0_setTown 25 = .ok (.iload_n 3, 1) := by decide +kernel
theorem dX0_setTown_26 : decode cX0_setTown 26 = .ok (.iastore, 1) := by decide +kernel
theorem dX0_setTown_27 : decode cX0_setTown 27 = .ok (.return_, 1) := by decide +kernel
theorem dX0_townOf_0 : decode cX0_townOf 0 = .ok (.iload_n 1, 1) := by decide +kernel
theorem dX0_townOf_1 : decode cX0_townOf 1 = .ok (.ifCond .lt 25, 3) := by decide +kernel
theorem dX0_townOf_4 : decode cX0_townOf 4 = .ok (.iload_n 1, 1) := by decide +kernel
theorem dX0_townOf_5 : decode cX0_townOf 5 = .ok (.aload_n 0, 1) := by decide +kernel
theorem dX0_townOf_6 : decode cX0_townOf 6 = .ok (.getfield 34, 3) := by decide +kernel
theorem dX0_townOf_9 : decode cX0_townOf 9 = .ok (.if_icmp .ge 17, 3) := by decide +kernel
theorem dX0_townOf_12 : decode cX0_townOf 12 = .ok (.iload_n 2, 1) := by decide +kernel
theorem dX0_townOf_13 : decode cX0_townOf 13 = .ok (.ifCond .lt 13, 3) := by decide +kernel
theorem dX0_townOf_16 : decode cX0_townOf 16 = .ok (.iload_n 2, 1) := by decide +kernel
theorem dX0_townOf_17 : decode cX0_townOf 17 = .ok (.bipush 60, 2) := by decide +kernel
theorem dX0_townOf_19 : decode cX0_townOf 19 = .ok (.if_icmp .ge 7, 3) := by decide +kernel
theorem dX0_townOf_22 : decode cX0_townOf 22 = .ok (.iconst 1, 1) := by decide +kernel
theorem dX0_townOf_23 : decode cX0_townOf 23 = .ok (.goto 4, 3) := by decide +kernel
theorem dX0_townOf_26 : decode cX0_townOf 26 = .ok (.iconst 0, 1) := by decide +kernel
theorem dX0_townOf_27 : decode cX0_townOf 27 = .ok (.istore_n 3, 1) := by decide +kernel
theorem dX0_townOf_28 : decode cX0_townOf 28 = .ok (.iload_n 3, 1) := by decide +kernel
theorem dX0_townOf_29 : decode cX0_townOf 29 = .ok (.ifCond .eq 17, 3) := by decide +kernel
theorem dX0_townOf_32 : decode cX0_townOf 32 = .ok (.aload_n 0, 1) := by decide +kernel
theorem dX0_townOf_33 : decode cX0_townOf 33 = .ok (.getfield 9, 3) := by decide +kernel
theorem dX0_townOf_36 : decode cX0_townOf 36 = .ok (.bipush 60, 2) := by decide +kernel
theorem dX0_townOf_38 : decode cX0_townOf 38 = .ok (.iload_n 1, 1) := by decide +kernel
theorem dX0_townOf_39 : decode cX0_townOf 39 = .ok (.imul, 1) := by decide +kernel
theorem dX0_townOf_40 : decode cX0_townOf 40 = .ok (.iload_n 2, 1) := by decide +kernel
theorem dX0_townOf_41 : decode cX0_townOf 41 = .ok (.iadd, 1) := by decide +kernel
theorem dX0_townOf_42 : decode cX0_townOf 42 = .ok (.iaload, 1) := by decide +kernel
theorem dX0_townOf_43 : decode cX0_townOf 43 = .ok (.goto 4, 3) := by decide +kernel
theorem dX0_townOf_46 : decode cX0_townOf 46 = .ok (.iconst (-1), 1) := by decide +kernel
theorem dX0_townOf_47 : decode cX0_townOf 47 = .ok (.ireturn, 1) := by decide +kernel
set_option maxRecDepth 20000 in
theorem ggX0_shutDay_X8_isDay : GoodIn wsX0_shutDay wsX8_isDay := goodIn_r _ [4] (by decide +kernel) (by decide +kernel)
set_option maxRecDepth 20000 in
theorem gX0_shutDay_X8_isDay_n42 : GoodIn wsX0_shutDay (wsX8_isDay) := ggX0_shutDay_X8_isDay
theorem dX0_shutDay_0 : decode cX0_shutDay 0 = .ok (.iload_n 1, 1) := by decide +kernel
theorem dX0_shutDay_1 : decode cX0_shutDay 1 = .ok (.invokestatic 42, 3) := by decide +kernel
theorem dX0_shutDay_4 : decode cX0_shutDay 4 = .ok (.ifCond .eq 10, 3) := by decide +kernel
theorem dX0_shutDay_7 : decode cX0_shutDay 7 = .ok (.aload_n 0, 1) := by decide +kernel
theorem dX0_shutDay_8 : decode cX0_shutDay 8 = .ok (.getfield 15, 3) := by decide +kernel
theorem dX0_shutDay_11 : decode cX0_shutDay 11 = .ok (.iload_n 1, 1) := by decide +kernel
theorem dX0_shutDay_12 : decode cX0_shutDay 12 = .ok (.iconst 1, 1) := by decide +kernel
theorem dX0_shutDay_13 : decode cX0_shutDay 13 = .ok (.bastore, 1) := by decide +kernel
theorem dX0_shutDay_14 : decode cX0_shutDay 14 = .ok (.return_, 1) := by decide +kernel
set_option maxRecDepth 20000 in
theorem ggX0_isShut_X8_isDay : GoodIn wsX0_isShut wsX8_isDay := goodIn_r _ [4] (by decide +kernel) (by decide +kernel)
set_option maxRecDepth 20000 in
theorem gX0_isShut_X8_isDay_n42 : GoodIn wsX0_isShut (wsX8_isDay) := ggX0_isShut_X8_isDay
theorem dX0_isShut_0 : decode cX0_isShut 0 = .ok (.iload_n 1, 1) := by decide +kernel
theorem dX0_isShut_1 : decode cX0_isShut 1 = .ok (.invokestatic 42, 3) := by decide +kernel
theorem dX0_isShut_4 : decode cX0_isShut 4 = .ok (.ifCond .eq 16, 3) := by decide +kernel
theorem dX0_isShut_7 : decode cX0_isShut 7 = .ok (.aload_n 0, 1) := by decide +kernel
theorem dX0_isShut_8 : decode cX0_isShut 8 = .ok (.getfield 15, 3) := by decide +kernel
theorem dX0_isShut_11 : decode cX0_isShut 11 = .ok (.iload_n 1, 1) := by decide +kernel
theorem dX0_isShut_12 : decode cX0_isShut 12 = .ok (.baload, 1) := by decide +kernel
theorem dX0_isShut_13 : decode cX0_isShut 13 = .ok (.ifCond .eq 7, 3) := by decide +kernel
theorem dX0_isShut_16 : decode cX0_isShut 16 = .ok (.iconst 1, 1) := by decide +kernel
theorem dX0_isShut_17 : decode cX0_isShut 17 = .ok (.goto 4, 3) := by decide +kernel
theorem dX0_isShut_20 : decode cX0_isShut 20 = .ok (.iconst 0, 1) := by decide +kernel
theorem dX0_isShut_21 : decode cX0_isShut 21 = .ok (.ireturn, 1) := by decide +kernel
set_option maxRecDepth 20000 in
theorem ggX0_hasHour_X0_townOf : GoodIn wsX0_hasHour wsX0_townOf := goodIn_r _ [5, 6, 7, 11, 12, 13, 14, 15, 16, 17, 18, 19] (by decide +kernel) (by decide +kernel)
set_option maxRecDepth 20000 in
theorem gX0_hasHour_X0_townOf : GoodIn wsX0_hasHour (wsV RX0 45 RX0 yX0_townOf wsX0_townOf) := goodIn_app (goodIn_of _ (by decide +kernel)) ggX0_hasHour_X0_townOf
set_option maxRecDepth 20000 in
theorem ggX0_hasHour_X0_isTravel : GoodIn wsX0_hasHour wsX0_isTravel := goodIn_r _ [10] (by decide +kernel) (by decide +kernel)
set_option maxRecDepth 20000 in
theorem gX0_hasHour_X0_isTravel : GoodIn wsX0_hasHour (va_wsS RX0 49 yX0_isTravel wsX0_isTravel) := goodIn_app (goodIn_of _ (by decide +kernel)) ggX0_hasHour_X0_isTravel
theorem dX0_hasHour_0 : decode cX0_hasHour 0 = .ok (.aload_n 0, 1) := by decide +kernel
theorem dX0_hasHour_1 : decode cX0_hasHour 1 = .ok (.iload_n 3, 1) := by decide +kernel
theorem dX0_hasHour_2 : decode cX0_hasHour 2 = .ok (.iload_n 1, 1) := by decide +kernel
theorem dX0_hasHour_3 : decode cX0_hasHour 3 = .ok (.invokevirtual 45, 3) := by decide +kernel
theorem dX0_hasHour_6 : decode cX0_hasHour 6 = .ok (.istore 4, 2) := by decide +kernel
theorem dX0_hasHour_8 : decode cX0_hasHour 8 = .ok (.iload 4, 2) := by decide +kernel
theorem dX0_hasHour_10 : decode cX0_hasHour 10 = .ok (.iconst (-1), 1) := by decide +kernel
theorem dX0_hasHour_11 : decode cX0_hasHour 11 = .ok (.if_icmp .eq 27, 3) := by decide +kernel
theorem dX0_hasHour_14 : decode cX0_hasHour 14 = .ok (.iload_n 2, 1) := by decide +kernel
theorem dX0_hasHour_15 : decode cX0_hasHour 15 = .ok (.ifCond .gt 19, 3) := by decide +kernel
theorem dX0_hasHour_18 : decode cX0_hasHour 18 = .ok (.iload 4, 2) := by decide +kernel
theorem dX0_hasHour_20 : decode cX0_hasHour 20 = .ok (.aload_n 0, 1) := by decide +kernel
theorem dX0_hasHour_21 : decode cX0_hasHour 21 = .ok (.iload_n 3, 1) := by decide +kernel
theorem dX0_hasHour_22 : decode cX0_hasHour 22 = .ok (.iload_n 1, 1) := by decide +kernel
theorem dX0_hasHour_23 : decode cX0_hasHour 23 = .ok (.iconst 1, 1) := by decide +kernel
theorem dX0_hasHour_24 : decode cX0_hasHour 24 = .ok (.isub, 1) := by decide +kernel
theorem dX0_hasHour_25 : decode cX0_hasHour 25 = .ok (.invokevirtual 45, 3) := by decide +kernel
theorem dX0_hasHour_28 : decode cX0_hasHour 28 = .ok (.invokestatic 49, 3) := by decide +kernel
theorem dX0_hasHour_31 : decode cX0_hasHour 31 = .ok (.ifCond .ne 7, 3) := by decide +kernel
theorem dX0_hasHour_34 : decode cX0_hasHour 34 = .ok (.iconst 1, 1) := by decide +kernel
theorem dX0_hasHour_35 : decode cX0_hasHour 35 = .ok (.goto 4, 3) := by decide +kernel
theorem dX0_hasHour_38 : decode cX0_hasHour 38 = .ok (.iconst 0, 1) := by decide +kernel
theorem dX0_hasHour_39 : decode cX0_hasHour 39 = .ok (.ireturn, 1) := by decide +kernel
theorem dX0_isTravel_0 : decode cX0_isTravel 0 = .ok (.iload_n 1, 1) := by decide +kernel
theorem dX0_isTravel_1 : decode cX0_isTravel 1 = .ok (.iconst (-1), 1) := by decide +kernel
theorem dX0_isTravel_2 : decode cX0_isTravel 2 = .ok (.if_icmp .eq 12, 3) := by decide +kernel
theorem dX0_isTravel_5 : decode cX0_isTravel 5 = .ok (.iload_n 1, 1) := by decide +kernel
theorem dX0_isTravel_6 : decode cX0_isTravel 6 = .ok (.iload_n 0, 1) := by decide +kernel
theorem dX0_isTravel_7 : decode cX0_isTravel 7 = .ok (.if_icmp .eq 7, 3) := by decide +kernel
theorem dX0_isTravel_10 : decode cX0_isTravel 10 = .ok (.iconst 1, 1) := by decide +kernel
theorem dX0_isTravel_11 : decode cX0_isTravel 11 = .ok (.goto 4, 3) := by decide +kernel
theorem dX0_isTravel_14 : decode cX0_isTravel 14 = .ok (.iconst 0, 1) := by decide +kernel
theorem dX0_isTravel_15 : decode cX0_isTravel 15 = .ok (.ireturn, 1) := by decide +kernel
theorem dX0_isSlot_0 : decode cX0_isSlot 0 = .ok (.iload_n 1, 1) := by decide +kernel
theorem dX0_isSlot_1 : decode cX0_isSlot 1 = .ok (.ifCond .lt 16, 3) := by decide +kernel
theorem dX0_isSlot_4 : decode cX0_isSlot 4 = .ok (.iload_n 1, 1) := by decide +kernel
theorem dX0_isSlot_5 : decode cX0_isSlot 5 = .ok (.aload_n 0, 1) := by decide +kernel
theorem dX0_isSlot_6 : decode cX0_isSlot 6 = .ok (.getfield 19, 3) := by decide +kernel
theorem dX0_isSlot_9 : decode cX0_isSlot 9 = .ok (.arraylength, 1) := by decide +kernel
theorem dX0_isSlot_10 : decode cX0_isSlot 10 = .ok (.if_icmp .ge 7, 3) := by decide +kernel
theorem dX0_isSlot_13 : decode cX0_isSlot 13 = .ok (.iconst 1, 1) := by decide +kernel
theorem dX0_isSlot_14 : decode cX0_isSlot 14 = .ok (.goto 4, 3) := by decide +kernel
theorem dX0_isSlot_17 : decode cX0_isSlot 17 = .ok (.iconst 0, 1) := by decide +kernel
theorem dX0_isSlot_18 : decode cX0_isSlot 18 = .ok (.ireturn, 1) := by decide +kernel
set_option maxRecDepth 20000 in
theorem ggX0_bookedIn_X0_isSlot : GoodIn wsX0_bookedIn wsX0_isSlot := goodIn_r _ [6, 1, 7, 8, 9, 10, 11, 12, 13, 14, 15] (by decide +kernel) (by decide +kernel)
set_option maxRecDepth 20000 in
theorem gX0_bookedIn_X0_isSlot : GoodIn wsX0_bookedIn (wsV RX0 53 RX0 yX0_isSlot wsX0_isSlot) := goodIn_app (goodIn_of _ (by decide +kernel)) ggX0_bookedIn_X0_isSlot
theorem dX0_bookedIn_0 : decode cX0_bookedIn 0 = .ok (.aload_n 0, 1) := by decide +kernel
theorem dX0_bookedIn_1 : decode cX0_bookedIn 1 = .ok (.iload_n 1, 1) := by decide +kernel
theorem dX0_bookedIn_2 : decode cX0_bookedIn 2 = .ok (.invokevirtual 53, 3) := by decide +kernel
theorem dX0_bookedIn_5 : decode cX0_bookedIn 5 = .ok (.ifCond .eq 12, 3) := by decide +kernel
theorem dX0_bookedIn_8 : decode cX0_bookedIn 8 = .ok (.aload_n 0, 1) := by decide +kernel
theorem dX0_bookedIn_9 : decode cX0_bookedIn 9 = .ok (.getfield 19, 3) := by decide +kernel
theorem dX0_bookedIn_12 : decode cX0_bookedIn 12 = .ok (.iload_n 1, 1) := by decide +kernel
theorem dX0_bookedIn_13 : decode cX0_bookedIn 13 = .ok (.iaload, 1) := by decide +kernel
theorem dX0_bookedIn_14 : decode cX0_bookedIn 14 = .ok (.goto 4, 3) := by decide +kernel
theorem dX0_bookedIn_17 : decode cX0_bookedIn 17 = .ok (.iconst (-1), 1) := by decide +kernel
theorem dX0_bookedIn_18 : decode cX0_bookedIn 18 = .ok (.ireturn, 1) := by decide +kernel
set_option maxRecDepth 20000 in
theorem ggX0_setBooked_X0_isSlot : GoodIn wsX0_setBooked wsX0_isSlot := goodIn_r _ [6, 1, 7, 8, 9, 10, 11, 12, 13, 14, 15] (by decide +kernel) (by decide +kernel)
set_option maxRecDepth 20000 in
theorem gX0_setBooked_X0_isSlot : GoodIn wsX0_setBooked (wsV RX0 53 RX0 yX0_isSlot wsX0_isSlot) := goodIn_app (goodIn_of _ (by decide +kernel)) ggX0_setBooked_X0_isSlot
theorem dX0_setBooked_0 : decode cX0_setBooked 0 = .ok (.aload_n 0, 1) := by decide +kernel
theorem dX0_setBooked_1 : decode cX0_setBooked 1 = .ok (.iload_n 1, 1) := by decide +kernel
theorem dX0_setBooked_2 : decode cX0_setBooked 2 = .ok (.invokevirtual 53, 3) := by decide +kernel
theorem dX0_setBooked_5 : decode cX0_setBooked 5 = .ok (.ifCond .eq 10, 3) := by decide +kernel
theorem dX0_setBooked_8 : decode cX0_setBooked 8 = .ok (.aload_n 0, 1) := by decide +kernel
theorem dX0_setBooked_9 : decode cX0_setBooked 9 = .ok (.getfield 19, 3) := by decide +kernel
theorem dX0_setBooked_12 : decode cX0_setBooked 12 = .ok (.iload_n 1, 1) := by decide +kernel
theorem dX0_setBooked_13 : decode cX0_setBooked 13 = .ok (.iload_n 2, 1) := by decide +kernel
theorem dX0_setBooked_14 : decode cX0_setBooked 14 = .ok (.iastore, 1) := by decide +kernel
theorem dX0_setBooked_15 : decode cX0_setBooked 15 = .ok (.return_, 1) := by decide +kernel
set_option maxRecDepth 20000 in
theorem ggX0_isFree_X0_isSlot : GoodIn wsX0_isFree wsX0_isSlot := goodIn_r _ [8, 1, 29, 30, 31, 32, 33, 34, 35, 36, 37] (by decide +kernel) (by decide +kernel)
set_option maxRecDepth 20000 in
theorem gX0_isFree_X0_isSlot : GoodIn wsX0_isFree (wsV RX0 53 RX0 yX0_isSlot wsX0_isSlot) := goodIn_app (goodIn_of _ (by decide +kernel)) ggX0_isFree_X0_isSlot
set_option maxRecDepth 20000 in
theorem ggX0_isFree_X8_dayOf : GoodIn wsX0_isFree wsX8_dayOf := goodIn_r _ [11] (by decide +kernel) (by decide +kernel)
set_option maxRecDepth 20000 in
theorem gX0_isFree_X8_dayOf_n56 : GoodIn wsX0_isFree (wsX8_dayOf) := ggX0_isFree_X8_dayOf
set_option maxRecDepth 20000 in
theorem ggX0_isFree_X8_hourOf : GoodIn wsX0_isFree wsX8_hourOf := goodIn_r _ [13] (by decide +kernel) (by decide +kernel)
set_option maxRecDepth 20000 in
theorem gX0_isFree_X8_hourOf_n63 : GoodIn wsX0_isFree (wsX8_hourOf) := ggX0_isFree_X8_hourOf
set_option maxRecDepth 20000 in
theorem ggX0_isFree_X8_examinerOf : GoodIn wsX0_isFree wsX8_examinerOf := goodIn_r _ [15] (by decide +kernel) (by decide +kernel)
set_option maxRecDepth 20000 in
theorem gX0_isFree_X8_examinerOf_n66 : GoodIn wsX0_isFree (wsX8_examinerOf) := ggX0_isFree_X8_examinerOf
set_option maxRecDepth 20000 in
theorem ggX0_isFree_X0_hasHour : GoodIn wsX0_isFree wsX0_hasHour := goodIn_r _ [19, 20, 21, 22, 7, 23, 24, 25, 26, 27, 28, 29, 30, 31, 32, 33, 34, 35, 36, 37] (by decide +kernel) (by decide +kernel)
set_option maxRecDepth 20000 in
theorem gX0_isFree_X0_hasHour : GoodIn wsX0_isFree (wsV RX0 69 RX0 yX0_hasHour wsX0_hasHour) := goodIn_app (goodIn_of _ (by decide +kernel)) ggX0_isFree_X0_hasHour
theorem dX0_isFree_0 : decode cX0_isFree 0 = .ok (.aload_n 0, 1) := by decide +kernel
theorem dX0_isFree_1 : decode cX0_isFree 1 = .ok (.iload_n 1, 1) := by decide +kernel
theorem dX0_isFree_2 : decode cX0_isFree 2 = .ok (.invokevirtual 53, 3) := by decide +kernel
theorem dX0_isFree_5 : decode cX0_isFree 5 = .ok (.ifCond .eq 13, 3) := by decide +kernel
theorem dX0_isFree_8 : decode cX0_isFree 8 = .ok (.aload_n 0, 1) := by decide +kernel
theorem dX0_isFree_9 : decode cX0_isFree 9 = .ok (.getfield 19, 3) := by decide +kernel
theorem dX0_isFree_12 : decode cX0_isFree 12 = .ok (.iload_n 1, 1) := by decide +kernel
theorem dX0_isFree_13 : decode cX0_isFree 13 = .ok (.iaload, 1) := by decide +kernel
theorem dX0_isFree_14 : decode cX0_isFree 14 = .ok (.iconst (-1), 1) := by decide +kernel
theorem dX0_isFree_15 : decode cX0_isFree 15 = .ok (.if_icmp .eq 5, 3) := by decide +kernel
theorem dX0_isFree_18 : decode cX0_isFree 18 = .ok (.iconst 0, 1) := by decide +kernel
theorem dX0_isFree_19 : decode cX0_isFree 19 = .ok (.ireturn, 1) := by decide +kernel
theorem dX0_isFree_20 : decode cX0_isFree 20 = .ok (.iload_n 1, 1) := by decide +kernel
theorem dX0_isFree_21 : decode cX0_isFree 21 = .ok (.invokestatic 56, 3) := by decide +kernel
theorem dX0_isFree_24 : decode cX0_isFree 24 = .ok (.istore_n 2, 1) := by decide +kernel
theorem dX0_isFree_25 : decode cX0_isFree 25 = .ok (.iload_n 2, 1) := by decide +kernel
theorem dX0_isFree_26 : decode cX0_isFree 26 = .ok (.aload_n 0, 1) := by decide +kernel
theorem dX0_isFree_27 : decode cX0_isFree 27 = .ok (.getfield 60, 3) := by decide +kernel
theorem dX0_isFree_30 : decode cX0_isFree 30 = .ok (.if_icmp .le 32, 3) := by decide +kernel
theorem dX0_isFree_33 : decode cX0_isFree 33 = .ok (.aload_n 0, 1) := by decide +kernel
theorem dX0_isFree_34 : decode cX0_isFree 34 = .ok (.getfield 15, 3) := by decide +kernel
theorem dX0_isFree_37 : decode cX0_isFree 37 = .ok (.iload_n 2, 1) := by decide +kernel
theorem dX0_isFree_38 : decode cX0_isFree 38 = .ok (.baload, 1) := by decide +kernel
theorem dX0_isFree_39 : decode cX0_isFree 39 = .ok (.ifCond .ne 23, 3) := by decide +kernel
theorem dX0_isFree_42 : decode cX0_isFree 42 = .ok (.aload_n 0, 1) := by decide +kernel
theorem dX0_isFree_43 : decode cX0_isFree 43 = .ok (.iload_n 2, 1) := by decide +kernel
theorem dX0_isFree_44 : decode cX0_isFree 44 = .ok (.iload_n 1, 1) := by decide +kernel
theorem dX0_isFree_45 : decode cX0_isFree 45 = .ok (.invokestatic 63, 3) := by decide +kernel
theorem dX0_isFree_48 : decode cX0_isFree 48 = .ok (.iload_n 1, 1) := by decide +kernel
theorem dX0_isFree_49 : decode cX0_isFree 49 = .ok (.invokestatic 66, 3) := by decide +kernel
theorem dX0_isFree_52 : decode cX0_isFree 52 = .ok (.invokevirtual 69, 3) := by decide +kernel
theorem dX0_isFree_55 : decode cX0_isFree 55 = .ok (.ifCond .eq 7, 3) := by decide +kernel
theorem dX0_isFree_58 : decode cX0_isFree 58 = .ok (.iconst 1, 1) := by decide +kernel
theorem dX0_isFree_59 : decode cX0_isFree 59 = .ok (.goto 4, 3) := by decide +kernel
theorem dX0_isFree_62 : decode cX0_isFree 62 = .ok (.iconst 0, 1) := by decide +kernel
theorem dX0_isFree_63 : decode cX0_isFree 63 = .ok (.ireturn, 1) := by decide +kernel
set_option maxRecDepth 20000 in
theorem ggX0_leastFree_X0_leastFreeOn : GoodIn wsX0_leastFree wsX0_leastFreeOn := goodIn_r _ [10, 11, 12, 13, 14, 9, 15, 16, 17, 18, 19, 20, 21, 22, 23, 24, 25, 26, 27, 28, 1, 29, 30, 31, 32, 33, 34, 35, 36, 37, 38, 39, 40, 41, 42, 43, 44, 45, 46, 47, 48, 49, 50, 51, 52, 53, 54, 55] (by decide +kernel) (by decide +kernel)
set_option maxRecDepth 20000 in
theorem gX0_leastFree_X0_leastFreeOn : GoodIn wsX0_leastFree (wsV RX0 78 RX0 yX0_leastFreeOn wsX0_leastFreeOn) := goodIn_app (goodIn_of _ (by decide +kernel)) ggX0_leastFree_X0_leastFreeOn
theorem dX0_leastFree_0 : decode cX0_leastFree 0 = .ok (.iload_n 2, 1) := by decide +kernel
theorem dX0_leastFree_1 : decode cX0_leastFree 1 = .ok (.aload_n 0, 1) := by decide +kernel
theorem dX0_leastFree_2 : decode cX0_leastFree 2 = .ok (.getfield 60, 3) := by decide +kernel
theorem dX0_leastFree_5 : decode cX0_leastFree 5 = .ok (.iconst 1, 1) := by decide +kernel
theorem dX0_leastFree_6 : decode cX0_leastFree 6 = .ok (.iadd, 1) := by decide +kernel
theorem dX0_leastFree_7 : decode cX0_leastFree 7 = .ok (.invokestatic 73, 3) := by decide +kernel
theorem dX0_leastFree_10 : decode cX0_leastFree 10 = .ok (.istore 4, 2) := by decide +kernel
theorem dX0_leastFree_12 : decode cX0_leastFree 12 = .ok (.iload 4, 2) := by decide +kernel
theorem dX0_leastFree_14 : decode cX0_leastFree 14 = .ok (.iload_n 3, 1) := by decide +kernel
theorem dX0_leastFree_15 : decode cX0_leastFree 15 = .ok (.if_icmp .gt 34, 3) := by decide +kernel
theorem dX0_leastFree_18 : decode cX0_leastFree 18 = .ok (.iload 4, 2) := by decide +kernel
theorem dX0_leastFree_20 : decode cX0_leastFree 20 = .ok (.bipush 60, 2) := by decide +kernel
theorem dX0_leastFree_22 : decode cX0_leastFree 22 = .ok (.if_icmp .ge 27, 3) := by decide +kernel
theorem dX0_leastFree_25 : decode cX0_leastFree 25 = .ok (.aload_n 0, 1) := by decide +kernel
theorem dX0_leastFree_26 : decode cX0_leastFree 26 = .ok (.iload 4, 2) := by decide +kernel
theorem dX0_leastFree_28 : decode cX0_leastFree 28 = .ok (.iload_n 1, 1) := by decide +kernel
theorem dX0_leastFree_29 : decode cX0_leastFree 29 = .ok (.invokevirtual 78, 3) := by decide +kernel
theorem dX0_leastFree_32 : decode cX0_leastFree 32 = .ok (.istore 5, 2) := by decide +kernel
theorem dX0_leastFree_34 : decode cX0_leastFree 34 = .ok (.iload 5, 2) := by decide +kernel
theorem dX0_leastFree_36 : decode cX0_leastFree 36 = .ok (.iconst (-1), 1) := by decide +kernel
theorem dX0_leastFree_37 : decode cX0_leastFree 37 = .ok (.if_icmp .eq 6, 3) := by decide +kernel
theorem dX0_leastFree_40 : decode cX0_leastFree 40 = .ok (.iload 5, 2) := by decide +kernel
theorem dX0_leastFree_42 : decode cX0_leastFree 42 = .ok (.ireturn, 1) := by decide +kernel
theorem dX0_leastFree_43 : decode cX0_leastFree 43 = .ok (.iinc 4 1, 3) := by decide +kernel
theorem dX0_leastFree_46 : decode cX0_leastFree 46 = .ok (.goto (-34), 3) := by decide +kernel
theorem dX0_leastFree_49 : decode cX0_leastFree 49 = .ok (.iconst (-1), 1) := by decide +kernel
theorem dX0_leastFree_50 : decode cX0_leastFree 50 = .ok (.ireturn, 1) := by decide +kernel
set_option maxRecDepth 20000 in
theorem ggX0_leastFreeOn_X0_townOf : GoodIn wsX0_leastFreeOn wsX0_townOf := goodIn_r _ [6, 1, 7, 39, 40, 41, 42, 43, 44, 45, 46, 47] (by decide +kernel) (by decide +kernel)
set_option maxRecDepth 20000 in
theorem gX0_leastFreeOn_X0_townOf : GoodIn wsX0_leastFreeOn (wsV RX0 45 RX0 yX0_townOf wsX0_townOf) := goodIn_app (goodIn_of _ (by decide +kernel)) ggX0_leastFreeOn_X0_townOf
set_option maxRecDepth 20000 in
theorem ggX0_leastFreeOn_X0_firstFreeOf : GoodIn wsX0_leastFreeOn wsX0_firstFreeOf := goodIn_r _ [11, 12, 13, 14, 15, 16, 17, 5, 18, 19, 20, 21, 22, 23, 24, 25, 26, 27, 28, 29, 30, 31, 32, 33, 34, 35, 2, 3, 4, 6, 1, 7, 36, 37, 38, 39, 40, 41, 42, 43, 44, 45, 46, 47] (by decide +kernel) (by decide +kernel)
set_option maxRecDepth 20000 in
theorem gX0_leastFreeOn_X0_firstFreeOf : GoodIn wsX0_leastFreeOn (wsV RX0 81 RX0 yX0_firstFreeOf wsX0_firstFreeOf) := goodIn_app (goodIn_of _ (by decide +kernel)) ggX0_leastFreeOn_X0_firstFreeOf
theorem dX0_leastFreeOn_0 : decode cX0_leastFreeOn 0 = .ok (.iconst (-1), 1) := by decide +kernel
theorem dX0_leastFreeOn_1 : decode cX0_leastFreeOn 1 = .ok (.istore_n 3, 1) := by decide +kernel
theorem dX0_leastFreeOn_2 : decode cX0_leastFreeOn 2 = .ok (.iconst 0, 1) := by decide +kernel
theorem dX0_leastFreeOn_3 : decode cX0_leastFreeOn 3 = .ok (.istore 4, 2) := by decide +kernel
theorem dX0_leastFreeOn_5 : decode cX0_leastFreeOn 5 = .ok (.iload 4, 2) := by decide +kernel
theorem dX0_leastFreeOn_7 : decode cX0_leastFreeOn 7 = .ok (.aload_n 0, 1) := by decide +kernel
theorem dX0_leastFreeOn_8 : decode cX0_leastFreeOn 8 = .ok (.getfield 34, 3) := by decide +kernel
theorem dX0_leastFreeOn_11 : decode cX0_leastFreeOn 11 = .ok (.if_icmp .ge 53, 3) := by decide +kernel
theorem dX0_leastFreeOn_14 : decode cX0_leastFreeOn 14 = .ok (.aload_n 0, 1) := by decide +kernel
theorem dX0_leastFreeOn_15 : decode cX0_leastFreeOn 15 = .ok (.iload 4, 2) := by decide +kernel
theorem dX0_leastFreeOn_17 : decode cX0_leastFreeOn 17 = .ok (.iload_n 1, 1) := by decide +kernel
theorem dX0_leastFreeOn_18 : decode cX0_leastFreeOn 18 = .ok (.invokevirtual 45, 3) := by decide +kernel
theorem dX0_leastFreeOn_21 : decode cX0_leastFreeOn 21 = .ok (.iload_n 2, 1) := by decide +kernel
theorem dX0_leastFreeOn_22 : decode cX0_leastFreeOn 22 = .ok (.if_icmp .ne 36, 3) := by decide +kernel
theorem dX0_leastFreeOn_25 : decode cX0_leastFreeOn 25 = .ok (.aload_n 0, 1) := by decide +kernel
theorem dX0_leastFreeOn_26 : decode cX0_leastFreeOn 26 = .ok (.iload 4, 2) := by decide +kernel
theorem dX0_leastFreeOn_28 : decode cX0_leastFreeOn 28 = .ok (.iload_n 1, 1) := by decide +kernel
theorem dX0_leastFreeOn_29 : decode cX0_leastFreeOn 29 = .ok (.invokevirtual 81, 3) := by decide +kernel
theorem dX0_leastFreeOn_32 : decode cX0_leastFreeOn 32 = .ok (.istore 5, 2) := by decide +kernel
theorem dX0_leastFreeOn_34 : decode cX0_leastFreeOn 34 = .ok (.iload 5, 2) := by decide +kernel
theorem dX0_leastFreeOn_36 : decode cX0_leastFreeOn 36 = .ok (.iconst (-1), 1) := by decide +kernel
theorem dX0_leastFreeOn_37 : decode cX0_leastFreeOn 37 = .ok (.if_icmp .eq 19, 3) := by decide +kernel
theorem dX0_leastFreeOn_40 : decode cX0_leastFreeOn 40 = .ok (.iload_n 3, 1) := by decide +kernel
theorem dX0_leastFreeOn_41 : decode cX0_leastFreeOn 41 = .ok (.iconst (-1), 1) := by decide +kernel
theorem dX0_leastFreeOn_42 : decode cX0_leastFreeOn 42 = .ok (.if_icmp .eq 9, 3) := by decide +kernel
theorem dX0_leastFreeOn_45 : decode cX0_leastFreeOn 45 = .ok (.iload 5, 2) := by decide +kernel
theorem dX0_leastFreeOn_47 : decode cX0_leastFreeOn 47 = .ok (.iload_n 3, 1) := by decide +kernel
theorem dX0_leastFreeOn_48 : decode cX0_leastFreeOn 48 = .ok (.if_icmp .ge 8, 3) := by decide +kernel
theorem dX0_leastFreeOn_51 : decode cX0_leastFreeOn 51 = .ok (.iload 5, 2) := by decide +kernel
theorem dX0_leastFreeOn_53 : decode cX0_leastFreeOn 53 = .ok (.goto 4, 3) := by decide +kernel
theorem dX0_leastFreeOn_56 : decode cX0_leastFreeOn 56 = .ok (.iload_n 3, 1) := by decide +kernel
theorem dX0_leastFreeOn_57 : decode cX0_leastFreeOn 57 = .ok (.istore_n 3, 1) := by decide +kernel
theorem dX0_leastFreeOn_58 : decode cX0_leastFreeOn 58 = .ok (.iinc 4 1, 3) := by decide +kernel
theorem dX0_leastFreeOn_61 : decode cX0_leastFreeOn 61 = .ok (.goto (-56), 3) := by decide +kernel
theorem dX0_leastFreeOn_64 : decode cX0_leastFreeOn 64 = .ok (.iload_n 3, 1) := by decide +kernel
theorem dX0_leastFreeOn_65 : decode cX0_leastFreeOn 65 = .ok (.ireturn, 1) := by decide +kernel
set_option maxRecDepth 20000 in
theorem ggX0_firstFreeOf_X8_slotOf : GoodIn wsX0_firstFreeOf wsX8_slotOf := goodIn_r _ [3] (by decide +kernel) (by decide +kernel)
set_option maxRecDepth 20000 in
theorem gX0_firstFreeOf_X8_slotOf_n84 : GoodIn wsX0_firstFreeOf (wsX8_slotOf) := ggX0_firstFreeOf_X8_slotOf
set_option maxRecDepth 20000 in
theorem ggX0_firstFreeOf_X0_isFree : GoodIn wsX0_firstFreeOf wsX0_isFree := goodIn_r _ [8, 9, 10, 11, 12, 13, 14, 7, 15, 16, 2, 17, 18, 19, 20, 21, 22, 23, 24, 25, 26, 27, 28, 29, 30, 31, 32, 33, 34, 35, 36, 37, 38, 39, 40, 41, 42, 43] (by decide +kernel) (by decide +kernel)
set_option maxRecDepth 20000 in
theorem gX0_firstFreeOf_X0_isFree : GoodIn wsX0_firstFreeOf (wsV RX0 88 RX0 yX0_isFree wsX0_isFree) := goodIn_app (goodIn_of _ (by decide +kernel)) ggX0_firstFreeOf_X0_isFree
theorem dX0_firstFreeOf_0 : decode cX0_firstFreeOf 0 = .ok (.iconst 0, 1) := by decide +kernel
theorem dX0_firstFreeOf_1 : decode cX0_firstFreeOf 1 = .ok (.istore_n 3, 1) := by decide +kernel
theorem dX0_firstFreeOf_2 : decode cX0_firstFreeOf 2 = .ok (.iload_n 3, 1) := by decide +kernel
theorem dX0_firstFreeOf_3 : decode cX0_firstFreeOf 3 = .ok (.bipush 6, 2) := by decide +kernel
theorem dX0_firstFreeOf_5 : decode cX0_firstFreeOf 5 = .ok (.if_icmp .ge 29, 3) := by decide +kernel
theorem dX0_firstFreeOf_8 : decode cX0_firstFreeOf 8 = .ok (.aload_n 0, 1) := by decide +kernel
theorem dX0_firstFreeOf_9 : decode cX0_firstFreeOf 9 = .ok (.iload_n 2, 1) := by decide +kernel
theorem dX0_firstFreeOf_10 : decode cX0_firstFreeOf 10 = .ok (.iload_n 3, 1) := by decide +kernel
theorem dX0_firstFreeOf_11 : decode cX0_firstFreeOf 11 = .ok (.iload_n 1, 1) := by decide +kernel
theorem dX0_firstFreeOf_12 : decode cX0_firstFreeOf 12 = .ok (.invokestatic 84, 3) := by decide +kernel
theorem dX0_firstFreeOf_15 : decode cX0_firstFreeOf 15 = .ok (.invokevirtual 88, 3) := by decide +kernel
theorem dX0_firstFreeOf_18 : decode cX0_firstFreeOf 18 = .ok (.ifCond .eq 10, 3) := by decide +kernel
theorem dX0_firstFreeOf_21 : decode cX0_firstFreeOf 21 = .ok (.iload_n 2, 1) := by decide +kernel
theorem dX0_firstFreeOf_22 : decode cX0_firstFreeOf 22 = .ok (.iload_n 3, 1) := by decide +kernel
theorem dX0_firstFreeOf_23 : decode cX0_firstFreeOf 23 = .ok (.iload_n 1, 1) := by decide +kernel
theorem dX0_firstFreeOf_24 : decode cX0_firstFreeOf 24 = .ok (.invokestatic 84, 3) := by decide +kernel
theorem dX0_firstFreeOf_27 : decode cX0_firstFreeOf 27 = .ok (.ireturn, 1) := by decide +kernel
theorem dX0_firstFreeOf_28 : decode cX0_firstFreeOf 28 = .ok (.iinc 3 1, 3) := by decide +kernel
theorem dX0_firstFreeOf_31 : decode cX0_firstFreeOf 31 = .ok (.goto (-29), 3) := by decide +kernel
theorem dX0_firstFreeOf_34 : decode cX0_firstFreeOf 34 = .ok (.iconst (-1), 1) := by decide +kernel
theorem dX0_firstFreeOf_35 : decode cX0_firstFreeOf 35 = .ok (.ireturn, 1) := by decide +kernel
set_option maxRecDepth 20000 in
theorem ggX0_noteTest_X0_isExaminer : GoodIn wsX0_noteTest wsX0_isExaminer := goodIn_r _ [9, 10, 11, 12, 13, 14, 15, 16, 17, 18, 19] (by decide +kernel) (by decide +kernel)
set_option maxRecDepth 20000 in
theorem gX0_noteTest_X0_isExaminer : GoodIn wsX0_noteTest (wsV RX0 38 RX0 yX0_isExaminer wsX0_isExaminer) := goodIn_app (goodIn_of _ (by decide +kernel)) ggX0_noteTest_X0_isExaminer
theorem dX0_noteTest_0 : decode cX0_noteTest 0 = .ok (.aload_n 0, 1) := by decide +kernel
theorem dX0_noteTest_1 : decode cX0_noteTest 1 = .ok (.iload_n 1, 1) := by decide +kernel
theorem dX0_noteTest_2 : decode cX0_noteTest 2 = .ok (.invokevirtual 38, 3) := by decide +kernel
theorem dX0_noteTest_5 : decode cX0_noteTest 5 = .ok (.ifCond .ne 4, 3) := by decide +kernel
theorem dX0_noteTest_8 : decode cX0_noteTest 8 = .ok (.return_, 1) := by decide +kernel
theorem dX0_noteTest_9 : decode cX0_noteTest 9 = .ok (.aload_n 0, 1) := by decide +kernel
theorem dX0_noteTest_10 : decode cX0_noteTest 10 = .ok (.getfield 22, 3) := by decide +kernel
theorem dX0_noteTest_13 : decode cX0_noteTest 13 = .ok (.iload_n 1, 1) := by decide +kernel
theorem dX0_noteTest_14 : decode cX0_noteTest 14 = .ok (.dup2, 1) := by decide +kernel
theorem dX0_noteTest_15 : decode cX0_noteTest 15 = .ok (.iaload, 1) := by decide +kernel
theorem dX0_noteTest_16 : decode cX0_noteTest 16 = .ok (.iconst 1, 1) := by decide +kernel
theorem dX0_noteTest_17 : decode cX0_noteTest 17 = .ok (.iadd, 1) := by decide +kernel
theorem dX0_noteTest_18 : decode cX0_noteTest 18 = .ok (.iastore, 1) := by decide +kernel
theorem dX0_noteTest_19 : decode cX0_noteTest 19 = .ok (.aload_n 0, 1) := by decide +kernel
theorem dX0_noteTest_20 : decode cX0_noteTest 20 = .ok (.dup, 1) := by decide +kernel
theorem dX0_noteTest_21 : decode cX0_noteTest 21 = .ok (.getfield 91, 3) := by decide +kernel
theorem dX0_noteTest_24 : decode cX0_noteTest 24 = .ok (.iconst 1, 1) := by decide +kernel
theorem dX0_noteTest_25 : decode cX0_noteTest 25 = .ok (.iadd, 1) := by decide +kernel
theorem dX0_noteTest_26 : decode cX0_noteTest 26 = .ok (.putfield 91, 3) := by decide +kernel
theorem dX0_noteTest_29 : decode cX0_noteTest 29 = .ok (.iload_n 2, 1) := by decide +kernel
theorem dX0_noteTest_30 : decode cX0_noteTest 30 = .ok (.ifCond .eq 23, 3) := by decide +kernel
theorem dX0_noteTest_33 : decode cX0_noteTest 33 = .ok (.aload_n 0, 1) := by decide +kernel
theorem dX0_noteTest_34 : decode cX0_noteTest 34 = .ok (.getfield 25, 3) := by decide +kernel
theorem dX0_noteTest_37 : decode cX0_noteTest 37 = .ok (.iload_n 1, 1) := by decide +kernel
theorem dX0_noteTest_38 : decode cX0_noteTest 38 = .ok (.dup2, 1) := by decide +kernel
theorem dX0_noteTest_39 : decode cX0_noteTest 39 = .ok (.iaload, 1) := by decide +kernel
theorem dX0_noteTest_40 : decode cX0_noteTest 40 = .ok (.iconst 1, 1) := by decide +kernel
theorem dX0_noteTest_41 : decode cX0_noteTest 41 = .ok (.iadd, 1) := by decide +kernel
theorem dX0_noteTest_42 : decode cX0_noteTest 42 = .ok (.iastore, 1) := by decide +kernel
theorem dX0_noteTest_43 : decode cX0_noteTest 43 = .ok (.aload_n 0, 1) := by decide +kernel
theorem dX0_noteTest_44 : decode cX0_noteTest 44 = .ok (.dup, 1) := by decide +kernel
theorem dX0_noteTest_45 : decode cX0_noteTest 45 = .ok (.getfield 94, 3) := by decide +kernel
theorem dX0_noteTest_48 : decode cX0_noteTest 48 = .ok (.iconst 1, 1) := by decide +kernel
theorem dX0_noteTest_49 : decode cX0_noteTest 49 = .ok (.iadd, 1) := by decide +kernel
theorem dX0_noteTest_50 : decode cX0_noteTest 50 = .ok (.putfield 94, 3) := by decide +kernel
theorem dX0_noteTest_53 : decode cX0_noteTest 53 = .ok (.return_, 1) := by decide +kernel
set_option maxRecDepth 20000 in
theorem ggX0_testsOf_X0_isExaminer : GoodIn wsX0_testsOf wsX0_isExaminer := goodIn_r _ [6, 7, 8, 9, 10, 11, 12, 13, 14, 15, 16] (by decide +kernel) (by decide +kernel)
set_option maxRecDepth 20000 in
theorem gX0_testsOf_X0_isExaminer : GoodIn wsX0_testsOf (wsV RX0 38 RX0 yX0_isExaminer wsX0_isExaminer) := goodIn_app (goodIn_of _ (by decide +kernel)) ggX0_testsOf_X0_isExaminer
theorem dX0_testsOf_0 : decode cX0_testsOf 0 = .ok (.aload_n 0, 1) := by decide +kernel
theorem dX0_testsOf_1 : decode cX0_testsOf 1 = .ok (.iload_n 1, 1) := by decide +kernel
theorem dX0_testsOf_2 : decode cX0_testsOf 2 = .ok (.invokevirtual 38, 3) := by decide +kernel
theorem dX0_testsOf_5 : decode cX0_testsOf 5 = .ok (.ifCond .eq 12, 3) := by decide +kernel
theorem dX0_testsOf_8 : decode cX0_testsOf 8 = .ok (.aload_n 0, 1) := by decide +kernel
theorem dX0_testsOf_9 : decode cX0_testsOf 9 = .ok (.getfield 22, 3) := by decide +kernel
theorem dX0_testsOf_12 : decode cX0_testsOf 12 = .ok (.iload_n 1, 1) := by decide +kernel
theorem dX0_testsOf_13 : decode cX0_testsOf 13 = .ok (.iaload, 1) := by decide +kernel
theorem dX0_testsOf_14 : decode cX0_testsOf 14 = .ok (.goto 4, 3) := by decide +kernel
theorem dX0_testsOf_17 : decode cX0_testsOf 17 = .ok (.iconst 0, 1) := by decide +kernel
theorem dX0_testsOf_18 : decode cX0_testsOf 18 = .ok (.ireturn, 1) := by decide +kernel
set_option maxRecDepth 20000 in
theorem ggX0_passesOf_X0_isExaminer : GoodIn wsX0_passesOf wsX0_isExaminer := goodIn_r _ [6, 7, 8, 9, 10, 11, 12, 13, 14, 15, 16] (by decide +kernel) (by decide +kernel)
set_option maxRecDepth 20000 in
theorem gX0_passesOf_X0_isExaminer : GoodIn wsX0_passesOf (wsV RX0 38 RX0 yX0_isExaminer wsX0_isExaminer) := goodIn_app (goodIn_of _ (by decide +kernel)) ggX0_passesOf_X0_isExaminer
theorem dX0_passesOf_0 : decode cX0_passesOf 0 = .ok (.aload_n 0, 1) := by decide +kernel
theorem dX0_passesOf_1 : decode cX0_passesOf 1 = .ok (.iload_n 1, 1) := by decide +kernel
theorem dX0_passesOf_2 : decode cX0_passesOf 2 = .ok (.invokevirtual 38, 3) := by decide +kernel
theorem dX0_passesOf_5 : decode cX0_passesOf 5 = .ok (.ifCond .eq 12, 3) := by decide +kernel
theorem dX0_passesOf_8 : decode cX0_passesOf 8 = .ok (.aload_n 0, 1) := by decide +kernel
theorem dX0_passesOf_9 : decode cX0_passesOf 9 = .ok (.getfield 25, 3) := by decide +kernel
theorem dX0_passesOf_12 : decode cX0_passesOf 12 = .ok (.iload_n 1, 1) := by decide +kernel
theorem dX0_passesOf_13 : decode cX0_passesOf 13 = .ok (.iaload, 1) := by decide +kernel
theorem dX0_passesOf_14 : decode cX0_passesOf 14 = .ok (.goto 4, 3) := by decide +kernel
theorem dX0_passesOf_17 : decode cX0_passesOf 17 = .ok (.iconst 0, 1) := by decide +kernel
theorem dX0_passesOf_18 : decode cX0_passesOf 18 = .ok (.ireturn, 1) := by decide +kernel
set_option maxRecDepth 20000 in
theorem ggX0_difference_X0_testsOf : GoodIn wsX0_difference wsX0_testsOf := goodIn_r _ [8, 9, 10, 11, 12, 7, 13, 14, 20, 21, 22, 23, 24, 25, 26, 27, 28] (by decide +kernel) (by decide +kernel)
set_option maxRecDepth 20000 in
theorem gX0_difference_X0_testsOf : GoodIn wsX0_difference (wsV RX0 97 RX0 yX0_testsOf wsX0_testsOf) := goodIn_app (goodIn_of _ (by decide +kernel)) ggX0_difference_X0_testsOf
set_option maxRecDepth 20000 in
theorem ggX0_difference_X0_passesOf : GoodIn wsX0_difference wsX0_passesOf := goodIn_r _ [18, 19, 10, 11, 12, 7, 13, 14, 20, 21, 22, 23, 24, 25, 26, 27, 28] (by decide +kernel) (by decide +kernel)
set_option maxRecDepth 20000 in
theorem gX0_difference_X0_passesOf : GoodIn wsX0_difference (wsV RX0 100 RX0 yX0_passesOf wsX0_passesOf) := goodIn_app (goodIn_of _ (by decide +kernel)) ggX0_difference_X0_passesOf
theorem dX0_difference_0 : decode cX0_difference 0 = .ok (.aload_n 0, 1) := by decide +kernel
theorem dX0_difference_1 : decode cX0_difference 1 = .ok (.iload_n 1, 1) := by decide +kernel
theorem dX0_difference_2 : decode cX0_difference 2 = .ok (.invokevirtual 97, 3) := by decide +kernel
theorem dX0_difference_5 : decode cX0_difference 5 = .ok (.i2l, 1) := by decide +kernel
theorem dX0_difference_6 : decode cX0_difference 6 = .ok (.lstore_n 3, 1) := by decide +kernel
theorem dX0_difference_7 : decode cX0_difference 7 = .ok (.aload_n 0, 1) := by decide +kernel
theorem dX0_difference_8 : decode cX0_difference 8 = .ok (.getfield 91, 3) := by decide +kernel
theorem dX0_difference_11 : decode cX0_difference 11 = .ok (.i2l, 1) := by decide +kernel
theorem dX0_difference_12 : decode cX0_difference 12 = .ok (.lload_n 3, 1) := by decide +kernel
theorem dX0_difference_13 : decode cX0_difference 13 = .ok (.lsub, 1) := by decide +kernel
theorem dX0_difference_14 : decode cX0_difference 14 = .ok (.lstore 5, 2) := by decide +kernel
theorem dX0_difference_16 : decode cX0_difference 16 = .ok (.aload_n 0, 1) := by decide +kernel
theorem dX0_difference_17 : decode cX0_difference 17 = .ok (.iload_n 1, 1) := by decide +kernel
theorem dX0_difference_18 : decode cX0_difference 18 = .ok (.invokevirtual 100, 3) := by decide +kernel
theorem dX0_difference_21 : decode cX0_difference 21 = .ok (.i2l, 1) := by decide +kernel
theorem dX0_difference_22 : decode cX0_difference 22 = .ok (.lstore 7, 2) := by decide +kernel
theorem dX0_difference_24 : decode cX0_difference 24 = .ok (.aload_n 0, 1) := by decide +kernel
theorem dX0_difference_25 : decode cX0_difference 25 = .ok (.getfield 94, 3) := by decide +kernel
theorem dX0_difference_28 : decode cX0_difference 28 = .ok (.i2l, 1) := by decide +kernel
theorem dX0_difference_29 : decode cX0_difference 29 = .ok (.lload 7, 2) := by decide +kernel
theorem dX0_difference_31 : decode cX0_difference 31 = .ok (.lsub, 1) := by decide +kernel
theorem dX0_difference_32 : decode cX0_difference 32 = .ok (.lstore 9, 2) := by decide +kernel
theorem dX0_difference_34 : decode cX0_difference 34 = .ok (.lload 7, 2) := by decide +kernel
theorem dX0_difference_36 : decode cX0_difference 36 = .ok (.lload 5, 2) := by decide +kernel
theorem dX0_difference_38 : decode cX0_difference 38 = .ok (.lmul, 1) := by decide +kernel
theorem dX0_difference_39 : decode cX0_difference 39 = .ok (.lload 9, 2) := by decide +kernel
theorem dX0_difference_41 : decode cX0_difference 41 = .ok (.lload_n 3, 1) := by decide +kernel
theorem dX0_difference_42 : decode cX0_difference 42 = .ok (.lmul, 1) := by decide +kernel
theorem dX0_difference_43 : decode cX0_difference 43 = .ok (.lsub, 1) := by decide +kernel
theorem dX0_difference_44 : decode cX0_difference 44 = .ok (.ldc2_w 103, 3) := by decide +kernel
theorem dX0_difference_47 : decode cX0_difference 47 = .ok (.lmul, 1) := by decide +kernel
theorem dX0_difference_48 : decode cX0_difference 48 = .ok (.lstore 11, 2) := by decide +kernel
theorem dX0_difference_50 : decode cX0_difference 50 = .ok (.iload_n 2, 1) := by decide +kernel
theorem dX0_difference_51 : decode cX0_difference 51 = .ok (.i2l, 1) := by decide +kernel
theorem dX0_difference_52 : decode cX0_difference 52 = .ok (.lload_n 3, 1) := by decide +kernel
theorem dX0_difference_53 : decode cX0_difference 53 = .ok (.lmul, 1) := by decide +kernel
theorem dX0_difference_54 : decode cX0_difference 54 = .ok (.lload 5, 2) := by decide +kernel
theorem dX0_difference_56 : decode cX0_difference 56 = .ok (.lmul, 1) := by decide +kernel
theorem dX0_difference_57 : decode cX0_difference 57 = .ok (.lstore 13, 2) := by decide +kernel
theorem dX0_difference_59 : decode cX0_difference 59 = .ok (.lload 11, 2) := by decide +kernel
theorem dX0_difference_61 : decode cX0_difference 61 = .ok (.lload 13, 2) := by decide +kernel
theorem dX0_difference_63 : decode cX0_difference 63 = .ok (.lcmp, 1) := by decide +kernel
theorem dX0_difference_64 : decode cX0_difference 64 = .ok (.ifCond .le 5, 3) := by decide +kernel
theorem dX0_difference_67 : decode cX0_difference 67 = .ok (.iconst 1, 1) := by decide +kernel
theorem dX0_difference_68 : decode cX0_difference 68 = .ok (.ireturn, 1) := by decide +kernel
theorem dX0_difference_69 : decode cX0_difference 69 = .ok (.lload 11, 2) := by decide +kernel
theorem dX0_difference_71 : decode cX0_difference 71 = .ok (.lload 13, 2) := by decide +kernel
theorem dX0_difference_73 : decode cX0_difference 73 = .ok (.lneg, 1) := by decide +kernel
theorem dX0_difference_74 : decode cX0_difference 74 = .ok (.lcmp, 1) := by decide +kernel
theorem dX0_difference_75 : decode cX0_difference 75 = .ok (.ifCond .ge 7, 3) := by decide +kernel
theorem dX0_difference_78 : decode cX0_difference 78 = .ok (.iconst (-1), 1) := by decide +kernel
theorem dX0_difference_79 : decode cX0_difference 79 = .ok (.goto 4, 3) := by decide +kernel
theorem dX0_difference_82 : decode cX0_difference 82 = .ok (.iconst 0, 1) := by decide +kernel
theorem dX0_difference_83 : decode cX0_difference 83 = .ok (.ireturn, 1) := by decide +kernel
theorem dX1_init_0 : decode cX1_init 0 = .ok (.aload_n 0, 1) := by decide +kernel
theorem dX1_init_1 : decode cX1_init 1 = .ok (.invokespecial 3, 3) := by decide +kernel
theorem dX1_init_4 : decode cX1_init 4 = .ok (.aload_n 0, 1) := by decide +kernel
theorem dX1_init_5 : decode cX1_init 5 = .ok (.iload_n 1, 1) := by decide +kernel
theorem dX1_init_6 : decode cX1_init 6 = .ok (.putfield 9, 3) := by decide +kernel
theorem dX1_init_9 : decode cX1_init 9 = .ok (.aload_n 0, 1) := by decide +kernel
theorem dX1_init_10 : decode cX1_init 10 = .ok (.iload_n 2, 1) := by decide +kernel
theorem dX1_init_11 : decode cX1_init 11 = .ok (.putfield 15, 3) := by decide +kernel
theorem dX1_init_14 : decode cX1_init 14 = .ok (.aload_n 0, 1) := by decide +kernel
theorem dX1_init_15 : decode cX1_init 15 = .ok (.iconst 0, 1) := by decide +kernel
theorem dX1_init_16 : decode cX1_init 16 = .ok (.putfield 18, 3) := by decide +kernel
theorem dX1_init_19 : decode cX1_init 19 = .ok (.aload_n 0, 1) := by decide +kernel
theorem dX1_init_20 : decode cX1_init 20 = .ok (.iconst (-1), 1) := by decide +kernel
theorem dX1_init_21 : decode cX1_init 21 = .ok (.putfield 21, 3) := by decide +kernel
theorem dX1_init_24 : decode cX1_init 24 = .ok (.return_, 1) := by decide +kernel
theorem dX2_init_0 : decode cX2_init 0 = .ok (.aload_n 0, 1) := by decide +kernel
theorem dX2_init_1 : decode cX2_init 1 = .ok (.invokespecial 3, 3) := by decide +kernel
theorem dX2_init_4 : decode cX2_init 4 = .ok (.aload_n 0, 1) := by decide +kernel
theorem dX2_init_5 : decode cX2_init 5 = .ok (.bipush 60, 2) := by decide +kernel
theorem dX2_init_7 : decode cX2_init 7 = .ok (.newarray .int, 2) := by decide +kernel
theorem dX2_init_9 : decode cX2_init 9 = .ok (.putfield 9, 3) := by decide +kernel
theorem dX2_init_12 : decode cX2_init 12 = .ok (.aload_n 0, 1) := by decide +kernel
theorem dX2_init_13 : decode cX2_init 13 = .ok (.bipush 60, 2) := by decide +kernel
theorem dX2_init_15 : decode cX2_init 15 = .ok (.newarray .int, 2) := by decide +kernel
theorem dX2_init_17 : decode cX2_init 17 = .ok (.putfield 15, 3) := by decide +kernel
theorem dX2_init_20 : decode cX2_init 20 = .ok (.return_, 1) := by decide +kernel
theorem dX2_clear_0 : decode cX2_clear 0 = .ok (.aload_n 0, 1) := by decide +kernel
theorem dX2_clear_1 : decode cX2_clear 1 = .ok (.iconst 0, 1) := by decide +kernel
theorem dX2_clear_2 : decode cX2_clear 2 = .ok (.putfield 18, 3) := by decide +kernel
theorem dX2_clear_5 : decode cX2_clear 5 = .ok (.return_, 1) := by decide +kernel
theorem dX2_add_0 : decode cX2_add 0 = .ok (.aload_n 0, 1) := by decide +kernel
theorem dX2_add_1 : decode cX2_add 1 = .ok (.getfield 18, 3) := by decide +kernel
theorem dX2_add_4 : decode cX2_add 4 = .ok (.bipush 60, 2) := by decide +kernel
theorem dX2_add_6 : decode cX2_add 6 = .ok (.if_icmp .lt 4, 3) := by decide +kernel
theorem dX2_add_9 : decode cX2_add 9 = .ok (.return_, 1) := by decide +kernel
theorem dX2_add_10 : decode cX2_add 10 = .ok (.aload_n 0, 1) := by decide +kernel
theorem dX2_add_11 : decode cX2_add 11 = .ok (.getfield 18, 3) := by decide +kernel
theorem dX2_add_14 : decode cX2_add 14 = .ok (.istore_n 3, 1) := by decide +kernel
theorem dX2_add_15 : decode cX2_add 15 = .ok (.iload_n 3, 1) := by decide +kernel
theorem dX2_add_16 : decode cX2_add 16 = .ok (.ifCond .le 49, 3) := by decide +kernel
theorem dX2_add_19 : decode cX2_add 19 = .ok (.aload_n 0, 1) := by decide +kernel
theorem dX2_add_20 : decode cX2_add 20 = .ok (.getfield 15, 3) := by decide +kernel
theorem dX2_add_23 : decode cX2_add 23 = .ok (.iload_n 3, 1) := by decide +kernel
theorem dX2_add_24 : decode cX2_add 24 = .ok (.iconst 1, 1) := by decide +kernel
theorem dX2_add_25 : decode cX2_add 25 = .ok (.isub, 1) := by decide +kernel
theorem dX2_add_26 : decode cX2_add 26 = .ok (.iaload, 1) := by decide +kernel
theorem dX2_add_27 : decode cX2_add 27 = .ok (.iload_n 2, 1) := by decide +kernel
theorem dX2_add_28 : decode cX2_add 28 = .ok (.if_icmp .ge 37, 3) := by decide +kernel
theorem dX2_add_31 : decode cX2_add 31 = .ok (.aload_n 0, 1) := by decide +kernel
theorem dX2_add_32 : decode cX2_add 32 = .ok (.getfield 9, 3) := by decide +kernel
theorem dX2_add_35 : decode cX2_add 35 = .ok (.iload_n 3, 1) := by decide +kernel
theorem dX2_add_36 : decode cX2_add 36 = .ok (.aload_n 0, 1) := by decide +kernel
theorem dX2_add_37 : decode cX2_add 37 = .ok (.getfield 9, 3) := by decide +kernel
theorem dX2_add_40 : decode cX2_add 40 = .ok (.iload_n 3, 1) := by decide +kernel
theorem dX2_add_41 : decode cX2_add 41 = .ok (.iconst 1, 1) := by decide +kernel
theorem dX2_add_42 : decode cX2_add 42 = .ok (.isub, 1) := by decide +kernel
theorem dX2_add_43 : decode cX2_add 43 = .ok (.iaload, 1) := by decide +kernel
theorem dX2_add_44 : decode cX2_add 44 = .ok (.iastore, 1) := by decide +kernel
theorem dX2_add_45 : decode cX2_add 45 = .ok (.aload_n 0, 1) := by decide +kernel
theorem dX2_add_46 : decode cX2_add 46 = .ok (.getfield 15, 3) := by decide +kernel
theorem dX2_add_49 : decode cX2_add 49 = .ok (.iload_n 3, 1) := by decide +kernel
theorem dX2_add_50 : decode cX2_add 50 = .ok (.aload_n 0, 1) := by decide +kernel
theorem dX2_add_51 : decode cX2_add 51 = .ok (.getfield 15, 3) := by decide +kernel
theorem dX2_add_54 : decode cX2_add 54 = .ok (.iload_n 3, 1) := by decide +kernel
theorem dX2_add_55 : decode cX2_add 55 = .ok (.iconst 1, 1) := by decide +kernel
theorem dX2_add_56 : decode cX2_add 56 = .ok (.isub, 1) := by decide +kernel
theorem dX2_add_57 : decode cX2_add 57 = .ok (.iaload, 1) := by decide +kernel
theorem dX2_add_58 : decode cX2_add 58 = .ok (.iastore, 1) := by decide +kernel
theorem dX2_add_59 : decode cX2_add 59 = .ok (.iinc 3 (-1), 3) := by decide +kernel
theorem dX2_add_62 : decode cX2_add 62 = .ok (.goto (-47), 3) := by decide +kernel
theorem dX2_add_65 : decode cX2_add 65 = .ok (.aload_n 0, 1) := by decide +kernel
theorem dX2_add_66 : decode cX2_add 66 = .ok (.getfield 9, 3) := by decide +kernel
theorem dX2_add_69 : decode cX2_add 69 = .ok (.iload_n 3, 1) := by decide +kernel
theorem dX2_add_70 : decode cX2_add 70 = .ok (.iload_n 1, 1) := by decide +kernel
theorem dX2_add_71 : decode cX2_add 71 = .ok (.iastore, 1) := by decide +kernel
theorem dX2_add_72 : decode cX2_add 72 = .ok (.aload_n 0, 1) := by decide +kernel
theorem dX2_add_73 : decode cX2_add 73 = .ok (.getfield 15, 3) := by decide +kernel
theorem dX2_add_76 : decode cX2_add 76 = .ok (.iload_n 3, 1) := by decide +kernel
theorem dX2_add_77 : decode cX2_add 77 = .ok (.iload_n 2, 1) := by decide +kernel
theorem dX2_add_78 : decode cX2_add 78 = .ok (.iastore, 1) := by decide +kernel
theorem dX2_add_79 : decode cX2_add 79 = .ok (.aload_n 0, 1) := by decide +kernel
theorem dX2_add_80 : decode cX2_add 80 = .ok (.dup, 1) := by decide +kernel
theorem dX2_add_81 : decode cX2_add 81 = .ok (.getfield 18, 3) := by decide +kernel
theorem dX2_add_84 : decode cX2_add 84 = .ok (.iconst 1, 1) := by decide +kernel
theorem dX2_add_85 : decode cX2_add 85 = .ok (.iadd, 1) := by decide +kernel
theorem dX2_add_86 : decode cX2_add 86 = .ok (.putfield 18, 3) := by decide +kernel
theorem dX2_add_89 : decode cX2_add 89 = .ok (.return_, 1) := by decide +kernel
theorem dX2_placeOf_0 : decode cX2_placeOf 0 = .ok (.iconst 0, 1) := by decide +kernel
theorem dX2_placeOf_1 : decode cX2_placeOf 1 = .ok (.istore_n 2, 1) := by decide +kernel
theorem dX2_placeOf_2 : decode cX2_placeOf 2 = .ok (.iload_n 2, 1) := by decide +kernel
theorem dX2_placeOf_3 : decode cX2_placeOf 3 = .ok (.aload_n 0, 1) := by decide +kernel
theorem dX2_placeOf_4 : decode cX2_placeOf 4 = .ok (.getfield 18, 3) := by decide +kernel
theorem dX2_placeOf_7 : decode cX2_placeOf 7 = .ok (.if_icmp .ge 21, 3) := by decide +kernel
theorem dX2_placeOf_10 : decode cX2_placeOf 10 = .ok (.aload_n 0, 1) := by decide +kernel
theorem dX2_placeOf_11 : decode cX2_placeOf 11 = .ok (.getfield 9, 3) := by decide +kernel
theorem dX2_placeOf_14 : decode cX2_placeOf 14 = .ok (.iload_n 2, 1) := by decide +kernel
theorem dX2_placeOf_15 : decode cX2_placeOf 15 = .ok (.iaload, 1) := by decide +kernel
theorem dX2_placeOf_16 : decode cX2_placeOf 16 = .ok (.iload_n 1, 1) := by decide +kernel
theorem dX2_placeOf_17 : decode cX2_placeOf 17 = .ok (.if_icmp .ne 5, 3) := by decide +kernel
theorem dX2_placeOf_20 : decode cX2_placeOf 20 = .ok (.iload_n 2, 1) := by decide +kernel
theorem dX2_placeOf_21 : decode cX2_placeOf 21 = .ok (.ireturn, 1) := by decide +kernel
theorem dX2_placeOf_22 : decode cX2_placeOf 22 = .ok (.iinc 2 1, 3) := by decide +kernel
theorem dX2_placeOf_25 : decode cX2_placeOf 25 = .ok (.goto (-23), 3) := by decide +kernel
theorem dX2_placeOf_28 : decode cX2_placeOf 28 = .ok (.iconst (-1), 1) := by decide +kernel
theorem dX2_placeOf_29 : decode cX2_placeOf 29 = .ok (.ireturn, 1) := by decide +kernel
theorem dX3_init_0 : decode cX3_init 0 = .ok (.aload_n 0, 1) := by decide +kernel
theorem dX3_init_1 : decode cX3_init 1 = .ok (.invokespecial 3, 3) := by decide +kernel
theorem dX3_init_4 : decode cX3_init 4 = .ok (.aload_n 0, 1) := by decide +kernel
theorem dX3_init_5 : decode cX3_init 5 = .ok (.bipush 24, 2) := by decide +kernel
theorem dX3_init_7 : decode cX3_init 7 = .ok (.newarray .int, 2) := by decide +kernel
theorem dX3_init_9 : decode cX3_init 9 = .ok (.putfield 11, 3) := by decide +kernel
theorem dX3_init_12 : decode cX3_init 12 = .ok (.aload_n 0, 1) := by decide +kernel
theorem dX3_init_13 : decode cX3_init 13 = .ok (.bipush 24, 2) := by decide +kernel
theorem dX3_init_15 : decode cX3_init 15 = .ok (.newarray .int, 2) := by decide +kernel
theorem dX3_init_17 : decode cX3_init 17 = .ok (.putfield 15, 3) := by decide +kernel
theorem dX3_init_20 : decode cX3_init 20 = .ok (.aload_n 0, 1) := by decide +kernel
theorem dX3_init_21 : decode cX3_init 21 = .ok (.bipush 24, 2) := by decide +kernel
theorem dX3_init_23 : decode cX3_init 23 = .ok (.newarray .int, 2) := by decide +kernel
theorem dX3_init_25 : decode cX3_init 25 = .ok (.putfield 18, 3) := by decide +kernel
theorem dX3_init_28 : decode cX3_init 28 = .ok (.aload_n 0, 1) := by decide +kernel
theorem dX3_init_29 : decode cX3_init 29 = .ok (.bipush 24, 2) := by decide +kernel
theorem dX3_init_31 : decode cX3_init 31 = .ok (.newarray .int, 2) := by decide +kernel
theorem dX3_init_33 : decode cX3_init 33 = .ok (.putfield 21, 3) := by decide +kernel
theorem dX3_init_36 : decode cX3_init 36 = .ok (.aload_n 0, 1) := by decide +kernel
theorem dX3_init_37 : decode cX3_init 37 = .ok (.bipush 24, 2) := by decide +kernel
theorem dX3_init_39 : decode cX3_init 39 = .ok (.newarray .boolean, 2) := by decide +kernel
theorem dX3_init_41 : decode cX3_init 41 = .ok (.putfield 24, 3) := by decide +kernel
theorem dX3_init_44 : decode cX3_init 44 = .ok (.aload_n 0, 1) := by decide +kernel
theorem dX3_init_45 : decode cX3_init 45 = .ok (.bipush 12, 2) := by decide +kernel
theorem dX3_init_47 : decode cX3_init 47 = .ok (.iconst 4, 1) := by decide +kernel
theorem dX3_init_48 : decode cX3_init 48 = .ok (.multianewarray 28 2, 4) := by decide +kernel
theorem dX3_init_52 : decode cX3_init 52 = .ok (.putfield 30, 3) := by decide +kernel
theorem dX3_init_55 : decode cX3_init 55 = .ok (.aload_n 0, 1) := by decide +kernel
theorem dX3_init_56 : decode cX3_init 56 = .ok (.bipush 12, 2) := by decide +kernel
theorem dX3_init_58 : decode cX3_init 58 = .ok (.newarray .int, 2) := by decide +kernel
theorem dX3_init_60 : decode cX3_init 60 = .ok (.putfield 33, 3) := by decide +kernel
theorem dX3_init_63 : decode cX3_init 63 = .ok (.aload_n 0, 1) := by decide +kernel
theorem dX3_init_64 : decode cX3_init 64 = .ok (.bipush 8, 2) := by decide +kernel
theorem dX3_init_66 : decode cX3_init 66 = .ok (.newarray .int, 2) := by decide +kernel
theorem dX3_init_68 : decode cX3_init 68 = .ok (.putfield 36, 3) := by decide +kernel
theorem dX3_init_71 : decode cX3_init 71 = .ok (.aload_n 0, 1) := by decide +kernel
theorem dX3_init_72 : decode cX3_init 72 = .ok (.bipush 8, 2) := by decide +kernel
theorem dX3_init_74 : decode cX3_init 74 = .ok (.newarray .int, 2) := by decide +kernel
theorem dX3_init_76 : decode cX3_init 76 = .ok (.putfield 39, 3) := by decide +kernel
theorem dX3_init_79 : decode cX3_init 79 = .ok (.return_, 1) := by decide +kernel
set_option maxRecDepth 20000 in
theorem ggX3_add_X3_hasRoomAt : GoodIn wsX3_add wsX3_hasRoomAt := goodIn_r _ [10, 11, 12, 13, 14, 20, 21, 22, 23, 24, 25, 26, 27, 28, 29, 30, 31, 32, 33, 34, 35, 36, 37] (by decide +kernel) (by decide +kernel)
set_option maxRecDepth 20000 in
theorem gX3_add_X3_hasRoomAt : GoodIn wsX3_add (wsV RX3 42 RX3 yX3_hasRoomAt wsX3_hasRoomAt) := goodIn_app (goodIn_of _ (by decide +kernel)) ggX3_add_X3_hasRoomAt
set_option maxRecDepth 20000 in
theorem ggX3_add_X8_isWithin : GoodIn wsX3_add wsX8_isWithin := goodIn_r _ [14] (by decide +kernel) (by decide +kernel)
set_option maxRecDepth 20000 in
theorem gX3_add_X8_isWithin_n50 : GoodIn wsX3_add (wsX8_isWithin) := ggX3_add_X8_isWithin
set_option maxRecDepth 20000 in
theorem ggX3_add_X3_putAt : GoodIn wsX3_add wsX3_putAt := goodIn_r _ [18, 19, 11, 6, 7, 8, 9, 10, 12, 13, 14, 20, 21, 22, 23, 24, 25, 26, 27, 28, 29, 30, 31, 32, 33, 34, 35, 36, 37] (by decide +kernel) (by decide +kernel)
set_option maxRecDepth 20000 in
theorem gX3_add_X3_putAt : GoodIn wsX3_add (wsV RX3 54 RX3 yX3_putAt wsX3_putAt) := goodIn_app (goodIn_of _ (by decide +kernel)) ggX3_add_X3_putAt
theorem dX3_add_0 : decode cX3_add 0 = .ok (.aload_n 0, 1) := by decide +kernel
theorem dX3_add_1 : decode cX3_add 1 = .ok (.iload_n 1, 1) := by decide +kernel
theorem dX3_add_2 : decode cX3_add 2 = .ok (.invokevirtual 42, 3) := by decide +kernel
theorem dX3_add_5 : decode cX3_add 5 = .ok (.ifCond .eq 25, 3) := by decide +kernel
theorem dX3_add_8 : decode cX3_add 8 = .ok (.aload_n 0, 1) := by decide +kernel
theorem dX3_add_9 : decode cX3_add 9 = .ok (.iload_n 2, 1) := by decide +kernel
theorem dX3_add_10 : decode cX3_add 10 = .ok (.invokevirtual 42, 3) := by decide +kernel
theorem dX3_add_13 : decode cX3_add 13 = .ok (.ifCond .eq 17, 3) := by decide +kernel
theorem dX3_add_16 : decode cX3_add 16 = .ok (.iload_n 1, 1) := by decide +kernel
theorem dX3_add_17 : decode cX3_add 17 = .ok (.iload_n 2, 1) := by decide +kernel
theorem dX3_add_18 : decode cX3_add 18 = .ok (.if_icmp .eq 12, 3) := by decide +kernel
theorem dX3_add_21 : decode cX3_add 21 = .ok (.aload_n 0, 1) := by decide +kernel
theorem dX3_add_22 : decode cX3_add 22 = .ok (.getfield 46, 3) := by decide +kernel
theorem dX3_add_25 : decode cX3_add 25 = .ok (.bipush 24, 2) := by decide +kernel
theorem dX3_add_27 : decode cX3_add 27 = .ok (.if_icmp .lt 5, 3) := by decide +kernel
theorem dX3_add_30 : decode cX3_add 30 = .ok (.iconst (-1), 1) := by decide +kernel
theorem dX3_add_31 : decode cX3_add 31 = .ok (.ireturn, 1) := by decide +kernel
theorem dX3_add_32 : decode cX3_add 32 = .ok (.iload_n 3, 1) := by decide +kernel
theorem dX3_add_33 : decode cX3_add 33 = .ok (.iconst 1, 1) := by decide +kernel
theorem dX3_add_34 : decode cX3_add 34 = .ok (.bipush 30, 2) := by decide +kernel
theorem dX3_add_36 : decode cX3_add 36 = .ok (.invokestatic 50, 3) := by decide +kernel
theorem dX3_add_39 : decode cX3_add 39 = .ok (.ifCond .eq 15, 3) := by decide +kernel
theorem dX3_add_42 : decode cX3_add 42 = .ok (.iload 4, 2) := by decide +kernel
theorem dX3_add_44 : decode cX3_add 44 = .ok (.iconst 0, 1) := by decide +kernel
theorem dX3_add_45 : decode cX3_add 45 = .ok (.sipush 255, 3) := by decide +kernel
theorem dX3_add_48 : decode cX3_add 48 = .ok (.invokestatic 50, 3) := by decide +kernel
theorem dX3_add_51 : decode cX3_add 51 = .ok (.ifCond .ne 5, 3) := by decide +kernel
theorem dX3_add_54 : decode cX3_add 54 = .ok (.iconst (-1), 1) := by decide +kernel
theorem dX3_add_55 : decode cX3_add 55 = .ok (.ireturn, 1) := by decide +kernel
theorem dX3_add_56 : decode cX3_add 56 = .ok (.aload_n 0, 1) := by decide +kernel
theorem dX3_add_57 : decode cX3_add 57 = .ok (.getfield 11, 3) := by decide +kernel
theorem dX3_add_60 : decode cX3_add 60 = .ok (.aload_n 0, 1) := by decide +kernel
theorem dX3_add_61 : decode cX3_add 61 = .ok (.getfield 46, 3) := by decide +kernel
theorem dX3_add_64 : decode cX3_add 64 = .ok (.iload_n 1, 1) := by decide +kernel
theorem dX3_add_65 : decode cX3_add 65 = .ok (.iastore, 1) := by decide +kernel
theorem dX3_add_66 : decode cX3_add 66 = .ok (.aload_n 0, 1) := by decide +kernel
theorem dX3_add_67 : decode cX3_add 67 = .ok (.getfield 15, 3) := by decide +kernel
theorem dX3_add_70 : decode cX3_add 70 = .ok (.aload_n 0, 1) := by decide +kernel
theorem dX3_add_71 : decode cX3_add 71 = .ok (.getfield 46, 3) := by decide +kernel
theorem dX3_add_74 : decode cX3_add 74 = .ok (.iload_n 2, 1) := by decide +kernel
theorem dX3_add_75 : decode cX3_add 75 = .ok (.iastore, 1) := by decide +kernel
theorem dX3_add_76 : decode cX3_add 76 = .ok (.aload_n 0, 1) := by decide +kernel
theorem dX3_add_77 : decode cX3_add 77 = .ok (.getfield 18, 3) := by decide +kernel
theorem dX3_add_80 : decode cX3_add 80 = .ok (.aload_n 0, 1) := by decide +kernel
theorem dX3_add_81 : decode cX3_add 81 = .ok (.getfield 46, 3) := by decide +kernel
theorem dX3_add_84 : decode cX3_add 84 = .ok (.iload_n 3, 1) := by decide +kernel
theorem dX3_add_85 : decode cX3_add 85 = .ok (.iastore, 1) := by decide +kernel
theorem dX3_add_86 : decode cX3_add 86 = .ok (.aload_n 0, 1) := by decide +kernel
theorem dX3_add_87 : decode cX3_add 87 = .ok (.getfield 21, 3) := by decide +kernel
theorem dX3_add_90 : decode cX3_add 90 = .ok (.aload_n 0, 1) := by decide +kernel
theorem dX3_add_91 : decode cX3_add 91 = .ok (.getfield 46, 3) := by decide +kernel
theorem dX3_add_94 : decode cX3_add 94 = .ok (.iload 4, 2) := by decide +kernel
theorem dX3_add_96 : decode cX3_add 96 = .ok (.iastore, 1) := by decide +kernel
theorem dX3_add_97 : decode cX3_add 97 = .ok (.aload_n 0, 1) := by decide +kernel
theorem dX3_add_98 : decode cX3_add 98 = .ok (.iload_n 1, 1) := by decide +kernel
theorem dX3_add_99 : decode cX3_add 99 = .ok (.aload_n 0, 1) := by decide +kernel
theorem dX3_add_100 : decode cX3_add 100 = .ok (.getfield 46, 3) := by decide +kernel
theorem dX3_add_103 : decode cX3_add 103 = .ok (.invokevirtual 54, 3) := by decide +kernel
theorem dX3_add_106 : decode cX3_add 106 = .ok (.aload_n 0, 1) := by decide +kernel
theorem dX3_add_107 : decode cX3_add 107 = .ok (.iload_n 2, 1) := by decide +kernel
theorem dX3_add_108 : decode cX3_add 108 = .ok (.aload_n 0, 1) := by decide +kernel
theorem dX3_add_109 : decode cX3_add 109 = .ok (.getfield 46, 3) := by decide +kernel
theorem dX3_add_112 : decode cX3_add 112 = .ok (.invokevirtual 54, 3) := by decide +kernel
theorem dX3_add_115 : decode cX3_add 115 = .ok (.aload_n 0, 1) := by decide +kernel
theorem dX3_add_116 : decode cX3_add 116 = .ok (.dup, 1) := by decide +kernel
theorem dX3_add_117 : decode cX3_add 117 = .ok (.getfield 46, 3) := by decide +kernel
theorem dX3_add_120 : decode cX3_add 120 = .ok (.iconst 1, 1) := by decide +kernel
theorem dX3_add_121 : decode cX3_add 121 = .ok (.iadd, 1) := by decide +kernel
theorem dX3_add_122 : decode cX3_add 122 = .ok (.putfield 46, 3) := by decide +kernel
theorem dX3_add_125 : decode cX3_add 125 = .ok (.aload_n 0, 1) := by decide +kernel
theorem dX3_add_126 : decode cX3_add 126 = .ok (.getfield 46, 3) := by decide +kernel
theorem dX3_add_129 : decode cX3_add 129 = .ok (.iconst 1, 1) := by decide +kernel
theorem dX3_add_130 : decode cX3_add 130 = .ok (.isub, 1) := by decide +kernel
theorem dX3_add_131 : decode cX3_add 131 = .ok (.ireturn, 1) := by decide +kernel
set_option maxRecDepth 20000 in
theorem ggX3_hasRoomAt_X8_isWithin : GoodIn wsX3_hasRoomAt wsX8_isWithin := goodIn_r _ [4] (by decide +kernel) (by decide +kernel)
set_option maxRecDepth 20000 in
theorem gX3_hasRoomAt_X8_isWithin_n50 : GoodIn wsX3_hasRoomAt (wsX8_isWithin) := ggX3_hasRoomAt_X8_isWithin
theorem dX3_hasRoomAt_0 : decode cX3_hasRoomAt 0 = .ok (.iload_n 1, 1) := by decide +kernel
theorem dX3_hasRoomAt_1 : decode cX3_hasRoomAt 1 = .ok (.iconst 0, 1) := by decide +kernel
theorem dX3_hasRoomAt_2 : decode cX3_hasRoomAt 2 = .ok (.bipush 11, 2) := by decide +kernel
theorem dX3_hasRoomAt_4 : decode cX3_hasRoomAt 4 = .ok (.invokestatic 50, 3) := by decide +kernel
theorem dX3_hasRoomAt_7 : decode cX3_hasRoomAt 7 = .ok (.ifCond .eq 17, 3) := by decide +kernel
theorem dX3_hasRoomAt_10 : decode cX3_hasRoomAt 10 = .ok (.aload_n 0, 1) := by decide +kernel
theorem dX3_hasRoomAt_11 : decode cX3_hasRoomAt 11 = .ok (.getfield 33, 3) := by decide +kernel
theorem dX3_hasRoomAt_14 : decode cX3_hasRoomAt 14 = .ok (.iload_n 1, 1) := by decide +kernel
theorem dX3_hasRoomAt_15 : decode cX3_hasRoomAt 15 = .ok (.iaload, 1) := by decide +kernel
theorem dX3_hasRoomAt_16 : decode cX3_hasRoomAt 16 = .ok (.iconst 4, 1) := by decide +kernel
theorem dX3_hasRoomAt_17 : decode cX3_hasRoomAt 17 = .ok (.if_icmp .ge 7, 3) := by decide +kernel
theorem dX3_hasRoomAt_20 : decode cX3_hasRoomAt 20 = .ok (.iconst 1, 1) := by decide +kernel
theorem dX3_hasRoomAt_21 : decode cX3_hasRoomAt 21 = .ok (.goto 4, 3) := by decide +kernel
theorem dX3_hasRoomAt_24 : decode cX3_hasRoomAt 24 = .ok (.iconst 0, 1) := by decide +kernel
theorem dX3_hasRoomAt_25 : decode cX3_hasRoomAt 25 = .ok (.ireturn, 1) := by decide +kernel
set_option maxRecDepth 20000 in
theorem ggX3_putAt_X3_hasRoomAt : GoodIn wsX3_putAt wsX3_hasRoomAt := goodIn_r _ [7, 2, 8, 9, 10, 11, 12, 13, 14, 15, 16, 17, 18, 19, 20, 21, 22, 23, 24, 25, 26, 27, 28] (by decide +kernel) (by decide +kernel)
set_option maxRecDepth 20000 in
theorem gX3_putAt_X3_hasRoomAt : GoodIn wsX3_putAt (wsV RX3 42 RX3 yX3_hasRoomAt wsX3_hasRoomAt) := goodIn_app (goodIn_of _ (by decide +kernel)) ggX3_putAt_X3_hasRoomAt
theorem dX3_putAt_0 : decode cX3_putAt 0 = .ok (.aload_n 0, 1) := by decide +kernel
theorem dX3_putAt_1 : decode cX3_putAt 1 = .ok (.iload_n 1, 1) := by decide +kernel
theorem dX3_putAt_2 : decode cX3_putAt 2 = .ok (.invokevirtual 42, 3) := by decide +kernel
theorem dX3_putAt_5 : decode cX3_putAt 5 = .ok (.ifCond .eq 27, 3) := by decide +kernel
theorem dX3_putAt_8 : decode cX3_putAt 8 = .ok (.aload_n 0, 1) := by decide +kernel
theorem dX3_putAt_9 : decode cX3_putAt 9 = .ok (.getfield 30, 3) := by decide +kernel
theorem dX3_putAt_12 : decode cX3_putAt 12 = .ok (.iload_n 1, 1) := by decide +kernel
theorem dX3_putAt_13 : decode cX3_putAt 13 = .ok (.aaload, 1) := by decide +kernel
theorem dX3_putAt_14 : decode cX3_putAt 14 = .ok (.aload_n 0, 1) := by decide +kernel
theorem dX3_putAt_15 : decode cX3_putAt 15 = .ok (.getfield 33, 3) := by decide +kernel
theorem dX3_putAt_18 : decode cX3_putAt 18 = .ok (.iload_n 1, 1) := by decide +kernel
theorem dX3_putAt_19 : decode cX3_putAt 19 = .ok (.iaload, 1) := by decide +kernel
theorem dX3_putAt_20 : decode cX3_putAt 20 = .ok (.iload_n 2, 1) := by decide +kernel
theorem dX3_putAt_21 : decode cX3_putAt 21 = .ok (.iastore, 1) := by decide +kernel
theorem dX3_putAt_22 : decode cX3_putAt 22 = .ok (.aload_n 0, 1) := by decide +kernel
theorem dX3_putAt_23 : decode cX3_putAt 23 = .ok (.getfield 33, 3) := by decide +kernel
theorem dX3_putAt_26 : decode cX3_putAt 26 = .ok (.iload_n 1, 1) := by decide +kernel
theorem dX3_putAt_27 : decode cX3_putAt 27 = .ok (.dup2, 1) := by decide +kernel
theorem dX3_putAt_28 : decode cX3_putAt 28 = .ok (.iaload, 1) := by decide +kernel
theorem dX3_putAt_29 : decode cX3_putAt 29 = .ok (.iconst 1, 1) := by decide +kernel
theorem dX3_putAt_30 : decode cX3_putAt 30 = .ok (.iadd, 1) := by decide +kernel
theorem dX3_putAt_31 : decode cX3_putAt 31 = .ok (.iastore, 1) := by decide +kernel
theorem dX3_putAt_32 : decode cX3_putAt 32 = .ok (.return_, 1) := by decide +kernel
set_option maxRecDepth 20000 in
theorem ggX3_setClosed_X8_isWithin : GoodIn wsX3_setClosed wsX8_isWithin := goodIn_r _ [5] (by decide +kernel) (by decide +kernel)
set_option maxRecDepth 20000 in
theorem gX3_setClosed_X8_isWithin_n50 : GoodIn wsX3_setClosed (wsX8_isWithin) := ggX3_setClosed_X8_isWithin
theorem dX3_setClosed_0 : decode cX3_setClosed 0 = .ok (.iload_n 1, 1) := by decide +kernel
theorem dX3_setClosed_1 : decode cX3_setClosed 1 = .ok (.iconst 0, 1) := by decide +kernel
theorem dX3_setClosed_2 : decode cX3_setClosed 2 = .ok (.aload_n 0, 1) := by decide +kernel
theorem dX3_setClosed_3 : decode cX3_setClosed 3 = .ok (.getfield 46, 3) := by decide +kernel
theorem dX3_setClosed_6 : decode cX3_setClosed 6 = .ok (.iconst 1, 1) := by decide +kernel
theorem dX3_setClosed_7 : decode cX3_setClosed 7 = .ok (.isub, 1) := by decide +kernel
theorem dX3_setClosed_8 : decode cX3_setClosed 8 = .ok (.invokestatic 50, 3) := by decide +kernel
theorem dX3_setClosed_11 : decode cX3_setClosed 11 = .ok (.ifCond .ne 5, 3) := by decide +kernel
theorem dX3_setClosed_14 : decode cX3_setClosed 14 = .ok (.iconst 0, 1) := by decide +kernel
theorem dX3_setClosed_15 : decode cX3_setClosed 15 = .ok (.ireturn, 1) := by decide +kernel
theorem dX3_setClosed_16 : decode cX3_setClosed 16 = .ok (.aload_n 0, 1) := by decide +kernel
theorem dX3_setClosed_17 : decode cX3_setClosed 17 = .ok (.getfield 24, 3) := by decide +kernel
theorem dX3_setClosed_20 : decode cX3_setClosed 20 = .ok (.iload_n 1, 1) := by decide +kernel
theorem dX3_setClosed_21 : decode cX3_setClosed 21 = .ok (.iload_n 2, 1) := by decide +kernel
theorem dX3_setClosed_22 : decode cX3_setClosed 22 = .ok (.bastore, 1) := by decide +kernel
theorem dX3_setClosed_23 : decode cX3_setClosed 23 = .ok (.iconst 1, 1) := by decide +kernel
theorem dX3_setClosed_24 : decode cX3_setClosed 24 = .ok (.ireturn, 1) := by decide +kernel
set_option maxRecDepth 20000 in
theorem ggX3_countRoutes_X8_isWithin : GoodIn wsX3_countRoutes wsX8_isWithin := goodIn_r _ [7] (by decide +kernel) (by decide +kernel)
set_option maxRecDepth 20000 in
theorem gX3_countRoutes_X8_isWithin_n50 : GoodIn wsX3_countRoutes (wsX8_isWithin) := ggX3_countRoutes_X8_isWithin
set_option maxRecDepth 20000 in
theorem ggX3_countRoutes_X3_search : GoodIn wsX3_countRoutes wsX3_search := goodIn_r _ [12, 13, 4, 14, 15, 16, 11, 17, 18, 19, 20, 21, 22, 23, 24, 25, 26, 27, 28, 29, 1, 2, 3, 30, 31, 5, 6, 7, 32, 33, 34, 35, 36, 37, 38, 39, 40, 41, 42, 43, 44, 45, 46, 47, 48, 49] (by decide +kernel) (by decide +kernel)
set_option maxRecDepth 20000 in
theorem gX3_countRoutes_X3_search : GoodIn wsX3_countRoutes (wsV RX3 67 RX3 yX3_search wsX3_search) := goodIn_app (goodIn_of _ (by decide +kernel)) ggX3_countRoutes_X3_search
theorem dX3_countRoutes_0 : decode cX3_countRoutes 0 = .ok (.iload_n 1, 1) := by decide +kernel
theorem dX3_countRoutes_1 : decode cX3_countRoutes 1 = .ok (.iconst 0, 1) := by decide +kernel
theorem dX3_countRoutes_2 : decode cX3_countRoutes 2 = .ok (.sipush 240, 3) := by decide +kernel
theorem dX3_countRoutes_5 : decode cX3_countRoutes 5 = .ok (.invokestatic 50, 3) := by decide +kernel
theorem dX3_countRoutes_8 : decode cX3_countRoutes 8 = .ok (.ifCond .eq 18, 3) := by decide +kernel
theorem dX3_countRoutes_11 : decode cX3_countRoutes 11 = .ok (.iload_n 2, 1) := by decide +kernel
theorem dX3_countRoutes_12 : decode cX3_countRoutes 12 = .ok (.iconst 0, 1) := by decide +kernel
theorem dX3_countRoutes_13 : decode cX3_countRoutes 13 = .ok (.sipush 240, 3) := by decide +kernel
theorem dX3_countRoutes_16 : decode cX3_countRoutes 16 = .ok (.invokestatic 50, 3) := by decide +kernel
theorem dX3_countRoutes_19 : decode cX3_countRoutes 19 = .ok (.ifCond .eq 7, 3) := by decide +kernel
theorem dX3_countRoutes_22 : decode cX3_countRoutes 22 = .ok (.iconst 1, 1) := by decide +kernel
theorem dX3_countRoutes_23 : decode cX3_countRoutes 23 = .ok (.goto 4, 3) := by decide +kernel
theorem dX3_countRoutes_26 : decode cX3_countRoutes 26 = .ok (.iconst 0, 1) := by decide +kernel
theorem dX3_countRoutes_27 : decode cX3_countRoutes 27 = .ok (.istore 4, 2) := by decide +kernel
theorem dX3_countRoutes_29 : decode cX3_countRoutes 29 = .ok (.iload 4, 2) := by decide +kernel
theorem dX3_countRoutes_31 : decode cX3_countRoutes 31 = .ok (.ifCond .eq 14, 3) := by decide +kernel
theorem dX3_countRoutes_34 : decode cX3_countRoutes 34 = .ok (.iload_n 3, 1) := by decide +kernel
theorem dX3_countRoutes_35 : decode cX3_countRoutes 35 = .ok (.iconst 0, 1) := by decide +kernel
theorem dX3_countRoutes_36 : decode cX3_countRoutes 36 = .ok (.sipush 255, 3) := by decide +kernel
theorem dX3_countRoutes_39 : decode cX3_countRoutes 39 = .ok (.invokestatic 50, 3) := by decide +kernel
theorem dX3_countRoutes_42 : decode cX3_countRoutes 42 = .ok (.ifCond .ne 5, 3) := by decide +kernel
theorem dX3_countRoutes_45 : decode cX3_countRoutes 45 = .ok (.iconst (-1), 1) := by decide +kernel
theorem dX3_countRoutes_46 : decode cX3_countRoutes 46 = .ok (.ireturn, 1) := by decide +kernel
theorem dX3_countRoutes_47 : decode cX3_countRoutes 47 = .ok (.aload_n 0, 1) := by decide +kernel
theorem dX3_countRoutes_48 : decode cX3_countRoutes 48 = .ok (.iload_n 1, 1) := by decide +kernel
theorem dX3_countRoutes_49 : decode cX3_countRoutes 49 = .ok (.putfield 58, 3) := by decide +kernel
theorem dX3_countRoutes_52 : decode cX3_countRoutes 52 = .ok (.aload_n 0, 1) := by decide +kernel
theorem dX3_countRoutes_53 : decode cX3_countRoutes 53 = .ok (.iload_n 2, 1) := by decide +kernel
theorem dX3_countRoutes_54 : decode cX3_countRoutes 54 = .ok (.putfield 61, 3) := by decide +kernel
theorem dX3_countRoutes_57 : decode cX3_countRoutes 57 = .ok (.aload_n 0, 1) := by decide +kernel
theorem dX3_countRoutes_58 : decode cX3_countRoutes 58 = .ok (.iload_n 3, 1) := by decide +kernel
theorem dX3_countRoutes_59 : decode cX3_countRoutes 59 = .ok (.putfield 64, 3) := by decide +kernel
theorem dX3_countRoutes_62 : decode cX3_countRoutes 62 = .ok (.aload_n 0, 1) := by decide +kernel
theorem dX3_countRoutes_63 : decode cX3_countRoutes 63 = .ok (.iconst (-1), 1) := by decide +kernel
theorem dX3_countRoutes_64 : decode cX3_countRoutes 64 = .ok (.invokevirtual 67, 3) := by decide +kernel
theorem dX3_countRoutes_67 : decode cX3_countRoutes 67 = .ok (.aload_n 0, 1) := by decide +kernel
theorem dX3_countRoutes_68 : decode cX3_countRoutes 68 = .ok (.getfield 71, 3) := by decide +kernel
theorem dX3_countRoutes_71 : decode cX3_countRoutes 71 = .ok (.ireturn, 1) := by decide +kernel
set_option maxRecDepth 20000 in
theorem ggX3_draw_X3_countRoutes : GoodIn wsX3_draw wsX3_countRoutes := goodIn_r _ [14, 15, 16, 17, 18, 19, 20, 21, 22, 23, 24, 13, 25, 26, 27, 28, 29, 30, 31, 32, 33, 1, 34, 35, 36, 37, 38, 39, 40, 41, 7, 9, 42, 43, 44, 45, 46, 47, 48, 49, 50, 51, 52, 53, 54, 55, 56, 57, 58, 59] (by decide +kernel) (by decide +kernel)
set_option maxRecDepth 20000 in
theorem gX3_draw_X3_countRoutes : GoodIn wsX3_draw (wsV RX3 74 RX3 yX3_countRoutes wsX3_countRoutes) := goodIn_app (goodIn_of _ (by decide +kernel)) ggX3_draw_X3_countRoutes
set_option maxRecDepth 20000 in
theorem ggX3_draw_X3_search : GoodIn wsX3_draw wsX3_search := goodIn_r _ [25, 26, 18, 27, 28, 29, 13, 30, 31, 32, 33, 1, 34, 35, 36, 37, 38, 39, 40, 41, 15, 16, 17, 7, 9, 19, 20, 21, 42, 43, 44, 45, 46, 47, 48, 49, 50, 51, 52, 53, 54, 55, 56, 57, 58, 59] (by decide +kernel) (by decide +kernel)
set_option maxRecDepth 20000 in
theorem gX3_draw_X3_search : GoodIn wsX3_draw (wsV RX3 67 RX3 yX3_search wsX3_search) := goodIn_app (goodIn_of _ (by decide +kernel)) ggX3_draw_X3_search
theorem dX3_draw_0 : decode cX3_draw 0 = .ok (.iload 4, 2) := by decide +kernel
theorem dX3_draw_2 : decode cX3_draw 2 = .ok (.ifCond .ge 7, 3) := by decide +kernel
theorem dX3_draw_5 : decode cX3_draw 5 = .ok (.iconst (-1), 1) := by decide +kernel
theorem dX3_draw_6 : decode cX3_draw 6 = .ok (.goto 10, 3) := by decide +kernel
theorem dX3_draw_9 : decode cX3_draw 9 = .ok (.aload_n 0, 1) := by decide +kernel
theorem dX3_draw_10 : decode cX3_draw 10 = .ok (.iload_n 1, 1) := by decide +kernel
theorem dX3_draw_11 : decode cX3_draw 11 = .ok (.iload_n 2, 1) := by decide +kernel
theorem dX3_draw_12 : decode cX3_draw 12 = .ok (.iload_n 3, 1) := by decide +kernel
theorem dX3_draw_13 : decode cX3_draw 13 = .ok (.invokevirtual 74, 3) := by decide +kernel
theorem dX3_draw_16 : decode cX3_draw 16 = .ok (.istore 5, 2) := by decide +kernel
theorem dX3_draw_18 : decode cX3_draw 18 = .ok (.iload 5, 2) := by decide +kernel
theorem dX3_draw_20 : decode cX3_draw 20 = .ok (.ifCond .gt 5, 3) := by decide +kernel
theorem dX3_draw_23 : decode cX3_draw 23 = .ok (.iconst (-1), 1) := by decide +kernel
theorem dX3_draw_24 : decode cX3_draw 24 = .ok (.ireturn, 1) := by decide +kernel
theorem dX3_draw_25 : decode cX3_draw 25 = .ok (.aload_n 0, 1) := by decide +kernel
theorem dX3_draw_26 : decode cX3_draw 26 = .ok (.iload 4, 2) := by decide +kernel
theorem dX3_draw_28 : decode cX3_draw 28 = .ok (.iload 5, 2) := by decide +kernel
theorem dX3_draw_30 : decode cX3_draw 30 = .ok (.irem, 1) := by decide +kernel
theorem dX3_draw_31 : decode cX3_draw 31 = .ok (.invokevirtual 67, 3) := by decide +kernel
theorem dX3_draw_34 : decode cX3_draw 34 = .ok (.aload_n 0, 1) := by decide +kernel
theorem dX3_draw_35 : decode cX3_draw 35 = .ok (.getfield 36, 3) := by decide +kernel
theorem dX3_draw_38 : decode cX3_draw 38 = .ok (.iconst 0, 1) := by decide +kernel
theorem dX3_draw_39 : decode cX3_draw 39 = .ok (.aload_n 0, 1) := by decide +kernel
theorem dX3_draw_40 : decode cX3_draw 40 = .ok (.getfield 39, 3) := by decide +kernel
theorem dX3_draw_43 : decode cX3_draw 43 = .ok (.iconst 0, 1) := by decide +kernel
theorem dX3_draw_44 : decode cX3_draw 44 = .ok (.bipush 8, 2) := by decide +kernel
theorem dX3_draw_46 : decode cX3_draw 46 = .ok (.invokestatic 78, 3) := by decide +kernel
theorem dX3_draw_49 : decode cX3_draw 49 = .ok (.aload_n 0, 1) := by decide +kernel
theorem dX3_draw_50 : decode cX3_draw 50 = .ok (.aload_n 0, 1) := by decide +kernel
theorem dX3_draw_51 : decode cX3_draw 51 = .ok (.getfield 84, 3) := by decide +kernel
theorem dX3_draw_54 : decode cX3_draw 54 = .ok (.putfield 87, 3) := by decide +kernel
theorem dX3_draw_57 : decode cX3_draw 57 = .ok (.aload_n 0, 1) := by decide +kernel
theorem dX3_draw_58 : decode cX3_draw 58 = .ok (.getfield 90, 3) := by decide +kernel
theorem dX3_draw_61 : decode cX3_draw 61 = .ok (.ireturn, 1) := by decide +kernel
set_option maxRecDepth 20000 in
theorem ggX3_drawnStreet_X8_isWithin : GoodIn wsX3_drawnStreet wsX8_isWithin := goodIn_r _ [5] (by decide +kernel) (by decide +kernel)
set_option maxRecDepth 20000 in
theorem gX3_drawnStreet_X8_isWithin_n50 : GoodIn wsX3_drawnStreet (wsX8_isWithin) := ggX3_drawnStreet_X8_isWithin
theorem dX3_drawnStreet_0 : decode cX3_drawnStreet 0 = .ok (.iload_n 1, 1) := by decide +kernel
theorem dX3_drawnStreet_1 : decode cX3_drawnStreet 1 = .ok (.iconst 0, 1) := by decide +kernel
theorem dX3_drawnStreet_2 : decode cX3_drawnStreet 2 = .ok (.aload_n 0, 1) := by decide +kernel
theorem dX3_drawnStreet_3 : decode cX3_drawnStreet 3 = .ok (.getfield 87, 3) := by decide +kernel
theorem dX3_drawnStreet_6 : decode cX3_drawnStreet 6 = .ok (.iconst 1, 1) := by decide +kernel
theorem dX3_drawnStreet_7 : decode cX3_drawnStreet 7 = .ok (.isub, 1) := by decide +kernel
theorem dX3_drawnStreet_8 : decode cX3_drawnStreet 8 = .ok (.invokestatic 50, 3) := by decide +kernel
theorem dX3_drawnStreet_11 : decode cX3_drawnStreet 11 = .ok (.ifCond .eq 12, 3) := by decide +kernel
theorem dX3_drawnStreet_14 : decode cX3_drawnStreet 14 = .ok (.aload_n 0, 1) := by decide +kernel
theorem dX3_drawnStreet_15 : decode cX3_drawnStreet 15 = .ok (.getfield 39, 3) := by decide +kernel
theorem dX3_drawnStreet_18 : decode cX3_drawnStreet 18 = .ok (.iload_n 1, 1) := by decide +kernel
theorem dX3_drawnStreet_19 : decode cX3_drawnStreet 19 = .ok (.iaload, 1) := by decide +kernel
theorem dX3_drawnStreet_20 : decode cX3_drawnStreet 20 = .ok (.goto 4, 3) := by decide +kernel
theorem dX3_drawnStreet_23 : decode cX3_drawnStreet 23 = .ok (.iconst (-1), 1) := by decide +kernel
theorem dX3_drawnStreet_24 : decode cX3_drawnStreet 24 = .ok (.ireturn, 1) := by decide +kernel
set_option maxRecDepth 20000 in
theorem ggX3_search_X3_walk : GoodIn wsX3_search wsX3_walk := goodIn_r _ [7, 8, 9, 10, 11, 12, 13, 14, 15, 16, 17, 18, 6, 19, 20, 21, 22, 2, 1, 23, 24, 25, 26, 27, 3, 4, 5, 28, 29, 30, 31, 32, 33, 34, 35, 36, 37, 38, 39, 40, 41, 42, 43, 44, 45] (by decide +kernel) (by decide +kernel)
set_option maxRecDepth 20000 in
theorem gX3_search_X3_walk : GoodIn wsX3_search (wsV RX3 96 RX3 yX3_walk wsX3_walk) := goodIn_app (goodIn_of _ (by decide +kernel)) ggX3_search_X3_walk
theorem dX3_search_0 : decode cX3_search 0 = .ok (.aload_n 0, 1) := by decide +kernel
theorem dX3_search_1 : decode cX3_search 1 = .ok (.iload_n 1, 1) := by decide +kernel
theorem dX3_search_2 : decode cX3_search 2 = .ok (.putfield 93, 3) := by decide +kernel
theorem dX3_search_5 : decode cX3_search 5 = .ok (.aload_n 0, 1) := by decide +kernel
theorem dX3_search_6 : decode cX3_search 6 = .ok (.iconst 0, 1) := by decide +kernel
theorem dX3_search_7 : decode cX3_search 7 = .ok (.putfield 71, 3) := by decide +kernel
theorem dX3_search_10 : decode cX3_search 10 = .ok (.aload_n 0, 1) := by decide +kernel
theorem dX3_search_11 : decode cX3_search 11 = .ok (.iconst 0, 1) := by decide +kernel
theorem dX3_search_12 : decode cX3_search 12 = .ok (.iconst 0, 1) := by decide +kernel
theorem dX3_search_13 : decode cX3_search 13 = .ok (.iconst 0, 1) := by decide +kernel
theorem dX3_search_14 : decode cX3_search 14 = .ok (.iconst 0, 1) := by decide +kernel
theorem dX3_search_15 : decode cX3_search 15 = .ok (.iconst 0, 1) := by decide +kernel
theorem dX3_search_16 : decode cX3_search 16 = .ok (.invokevirtual 96, 3) := by decide +kernel
theorem dX3_search_19 : decode cX3_search 19 = .ok (.pop, 1) := by decide +kernel
theorem dX3_search_20 : decode cX3_search 20 = .ok (.return_, 1) := by decide +kernel
set_option maxRecDepth 20000 in
theorem ggX3_walk_X3_isTarget : GoodIn wsX3_walk wsX3_isTarget := goodIn_r _ [13, 14, 15, 16, 17, 18, 19, 20, 21, 22, 23, 27, 28, 29, 30, 31, 32, 33, 34, 35, 36, 37, 38, 39, 40, 41, 42, 43, 44] (by decide +kernel) (by decide +kernel)
set_option maxRecDepth 20000 in
theorem gX3_walk_X3_isTarget : GoodIn wsX3_walk (wsV RX3 100 RX3 yX3_isTarget wsX3_isTarget) := goodIn_app (goodIn_of _ (by decide +kernel)) ggX3_walk_X3_isTarget
set_option maxRecDepth 20000 in
theorem ggX3_walk_X3_walk : GoodIn wsX3_walk wsX3_walk := goodIn_r _ [0, 1, 2, 3, 4, 5, 6, 7, 8, 9, 10, 11, 12, 13, 14, 15, 16, 17, 18, 19, 20, 21, 22, 23, 24, 25, 26, 27, 28, 29, 30, 31, 32, 33, 34, 35, 36, 37, 38, 39, 40, 41, 42, 43, 44] (by decide +kernel) (by decide +kernel)
set_option maxRecDepth 20000 in
theorem gX3_walk_X3_walk : GoodIn wsX3_walk (wsV RX3 96 RX3 yX3_walk wsX3_walk) := goodIn_app (goodIn_of _ (by decide +kernel)) ggX3_walk_X3_walk
theorem dX3_walk_0 : decode cX3_walk 0 = .ok (.iload_n 2, 1) := by decide +kernel
theorem dX3_walk_1 : decode cX3_walk 1 = .ok (.bipush 8, 2) := by decide +kernel
theorem dX3_walk_3 : decode cX3_walk 3 = .ok (.if_icmp .lt 5, 3) := by decide +kernel
theorem dX3_walk_6 : decode cX3_walk 6 = .ok (.iconst 0, 1) := by decide +kernel
theorem dX3_walk_7 : decode cX3_walk 7 = .ok (.ireturn, 1) := by decide +kernel
theorem dX3_walk_8 : decode cX3_walk 8 = .ok (.iconst 0, 1) := by decide +kernel
theorem dX3_walk_9 : decode cX3_walk 9 = .ok (.istore 6, 2) := by decide +kernel
theorem dX3_walk_11 : decode cX3_walk 11 = .ok (.iload 6, 2) := by decide +kernel
theorem dX3_walk_13 : decode cX3_walk 13 = .ok (.aload_n 0, 1) := by decide +kernel
theorem dX3_walk_14 : decode cX3_walk 14 = .ok (.getfield 33, 3) := by decide +kernel
theorem dX3_walk_17 : decode cX3_walk 17 = .ok (.iload_n 1, 1) := by decide +kernel
theorem dX3_walk_18 : decode cX3_walk 18 = .ok (.iaload, 1) := by decide +kernel
theorem dX3_walk_19 : decode cX3_walk 19 = .ok (.if_icmp .ge 152, 3) := by decide +kernel
theorem dX3_walk_22 : decode cX3_walk 22 = .ok (.aload_n 0, 1) := by decide +kernel
theorem dX3_walk_23 : decode cX3_walk 23 = .ok (.getfield 30, 3) := by decide +kernel
theorem dX3_walk_26 : decode cX3_walk 26 = .ok (.iload_n 1, 1) := by decide +kernel
theorem dX3_walk_27 : decode cX3_walk 27 = .ok (.aaload, 1) := by decide +kernel
theorem dX3_walk_28 : decode cX3_walk 28 = .ok (.iload 6, 2) := by decide +kernel
theorem dX3_walk_30 : decode cX3_walk 30 = .ok (.iaload, 1) := by decide +kernel
theorem dX3_walk_31 : decode cX3_walk 31 = .ok (.istore 7, 2) := by decide +kernel
theorem dX3_walk_33 : decode cX3_walk 33 = .ok (.aload_n 0, 1) := by decide +kernel
theorem dX3_walk_34 : decode cX3_walk 34 = .ok (.getfield 24, 3) := by decide +kernel
theorem dX3_walk_37 : decode cX3_walk 37 = .ok (.iload 7, 2) := by decide +kernel
theorem dX3_walk_39 : decode cX3_walk 39 = .ok (.baload, 1) := by decide +kernel
theorem dX3_walk_40 : decode cX3_walk 40 = .ok (.ifCond .ne 125, 3) := by decide +kernel
theorem dX3_walk_43 : decode cX3_walk 43 = .ok (.iload 5, 2) := by decide +kernel
theorem dX3_walk_45 : decode cX3_walk 45 = .ok (.iload 7, 2) := by decide +kernel
theorem dX3_walk_47 : decode cX3_walk 47 = .ok (.ishr, 1) := by decide +kernel
theorem dX3_walk_48 : decode cX3_walk 48 = .ok (.iconst 1, 1) := by decide +kernel
theorem dX3_walk_49 : decode cX3_walk 49 = .ok (.iand, 1) := by decide +kernel
theorem dX3_walk_50 : decode cX3_walk 50 = .ok (.ifCond .eq 6, 3) := by decide +kernel
theorem dX3_walk_53 : decode cX3_walk 53 = .ok (.goto 112, 3) := by decide +kernel
theorem dX3_walk_56 : decode cX3_walk 56 = .ok (.aload_n 0, 1) := by decide +kernel
theorem dX3_walk_57 : decode cX3_walk 57 = .ok (.getfield 36, 3) := by decide +kernel
theorem dX3_walk_60 : decode cX3_walk 60 = .ok (.iload_n 2, 1) := by decide +kernel
theorem dX3_walk_61 : decode cX3_walk 61 = .ok (.iload 7, 2) := by decide +kernel
theorem dX3_walk_63 : decode cX3_walk 63 = .ok (.iastore, 1) := by decide +kernel
theorem dX3_walk_64 : decode cX3_walk 64 = .ok (.aload_n 0, 1) := by decide +kernel
theorem dX3_walk_65 : decode cX3_walk 65 = .ok (.getfield 11, 3) := by decide +kernel
theorem dX3_walk_68 : decode cX3_walk 68 = .ok (.iload 7, 2) := by decide +kernel
theorem dX3_walk_70 : decode cX3_walk 70 = .ok (.iaload, 1) := by decide +kernel
theorem dX3_walk_71 : decode cX3_walk 71 = .ok (.iload_n 1, 1) := by decide +kernel
theorem dX3_walk_72 : decode cX3_walk 72 = .ok (.if_icmp .ne 13, 3) := by decide +kernel
theorem dX3_walk_75 : decode cX3_walk 75 = .ok (.aload_n 0, 1) := by decide +kernel
theorem dX3_walk_76 : decode cX3_walk 76 = .ok (.getfield 15, 3) := by decide +kernel
theorem dX3_walk_79 : decode cX3_walk 79 = .ok (.iload 7, 2) := by decide +kernel
theorem dX3_walk_81 : decode cX3_walk 81 = .ok (.iaload, 1) := by decide +kernel
theorem dX3_walk_82 : decode cX3_walk 82 = .ok (.goto 10, 3) := by decide +kernel
theorem dX3_walk_85 : decode cX3_walk 85 = .ok (.aload_n 0, 1) := by decide +kernel
theorem dX3_walk_86 : decode cX3_walk 86 = .ok (.getfield 11, 3) := by decide +kernel
theorem dX3_walk_89 : decode cX3_walk 89 = .ok (.iload 7, 2) := by decide +kernel
theorem dX3_walk_91 : decode cX3_walk 91 = .ok (.iaload, 1) := by decide +kernel
theorem dX3_walk_92 : decode cX3_walk 92 = .ok (.istore 8, 2) := by decide +kernel
theorem dX3_walk_94 : decode cX3_walk 94 = .ok (.iload_n 3, 1) := by decide +kernel
theorem dX3_walk_95 : decode cX3_walk 95 = .ok (.aload_n 0, 1) := by decide +kernel
theorem dX3_walk_96 : decode cX3_walk 96 = .ok (.getfield 18, 3) := by decide +kernel
theorem dX3_walk_99 : decode cX3_walk 99 = .ok (.iload 7, 2) := by decide +kernel
theorem dX3_walk_101 : decode cX3_walk 101 = .ok (.iaload, 1) := by decide +kernel
theorem dX3_walk_102 : decode cX3_walk 102 = .ok (.iadd, 1) := by decide +kernel
theorem dX3_walk_103 : decode cX3_walk 103 = .ok (.istore 9, 2) := by decide +kernel
theorem dX3_walk_105 : decode cX3_walk 105 = .ok (.iload 4, 2) := by decide +kernel
theorem dX3_walk_107 : decode cX3_walk 107 = .ok (.aload_n 0, 1) := by decide +kernel
theorem dX3_walk_108 : decode cX3_walk 108 = .ok (.getfield 21, 3) := by decide +kernel
theorem dX3_walk_111 : decode cX3_walk 111 = .ok (.iload 7, 2) := by decide +kernel
theorem dX3_walk_113 : decode cX3_walk 113 = .ok (.iaload, 1) := by decide +kernel
theorem dX3_walk_114 : decode cX3_walk 114 = .ok (.ior, 1) := by decide +kernel
theorem dX3_walk_115 : decode cX3_walk 115 = .ok (.istore 10, 2) := by decide +kernel
theorem dX3_walk_117 : decode cX3_walk 117 = .ok (.iload 8, 2) := by decide +kernel
theorem dX3_walk_119 : decode cX3_walk 119 = .ok (.ifCond .ne 17, 3) := by decide +kernel
theorem dX3_walk_122 : decode cX3_walk 122 = .ok (.aload_n 0, 1) := by decide +kernel
theorem dX3_walk_123 : decode cX3_walk 123 = .ok (.iload_n 2, 1) := by decide +kernel
theorem dX3_walk_124 : decode cX3_walk 124 = .ok (.iconst 1, 1) := by decide +kernel
theorem dX3_walk_125 : decode cX3_walk 125 = .ok (.iadd, 1) := by decide +kernel
theorem dX3_walk_126 : decode cX3_walk 126 = .ok (.iload 9, 2) := by decide +kernel
theorem dX3_walk_128 : decode cX3_walk 128 = .ok (.iload 10, 2) := by decide +kernel
theorem dX3_walk_130 : decode cX3_walk 130 = .ok (.invokevirtual 100, 3) := by decide +kernel
theorem dX3_walk_133 : decode cX3_walk 133 = .ok (.goto 23, 3) := by decide +kernel
theorem dX3_walk_136 : decode cX3_walk 136 = .ok (.aload_n 0, 1) := by decide +kernel
theorem dX3_walk_137 : decode cX3_walk 137 = .ok (.iload 8, 2) := by decide +kernel
theorem dX3_walk_139 : decode cX3_walk 139 = .ok (.iload_n 2, 1) := by decide +kernel
theorem dX3_walk_140 : decode cX3_walk 140 = .ok (.iconst 1, 1) := by decide +kernel
theorem dX3_walk_141 : decode cX3_walk 141 = .ok (.iadd, 1) := by decide +kernel
theorem dX3_walk_142 : decode cX3_walk 142 = .ok (.iload 9, 2) := by decide +kernel
theorem dX3_walk_144 : decode cX3_walk 144 = .ok (.iload 10, 2) := by decide +kernel
theorem dX3_walk_146 : decode cX3_walk 146 = .ok (.iload 5, 2) := by decide +kernel
theorem dX3_walk_148 : decode cX3_walk 148 = .ok (.iconst 1, 1) := by decide +kernel
theorem dX3_walk_149 : decode cX3_walk 149 = .ok (.iload 7, 2) := by decide +kernel
theorem dX3_walk_151 : decode cX3_walk 151 = .ok (.ishl, 1) := by decide +kernel
theorem dX3_walk_152 : decode cX3_walk 152 = .ok (.ior, 1) := by decide +kernel
theorem dX3_walk_153 : decode cX3_walk 153 = .ok (.invokevirtual 96, 3) := by decide +kernel
theorem dX3_walk_156 : decode cX3_walk 156 = .ok (.istore 11, 2) := by decide +kernel
theorem dX3_walk_158 : decode cX3_walk 158 = .ok (.iload 11, 2) := by decide +kernel
theorem dX3_walk_160 : decode cX3_walk 160 = .ok (.ifCond .eq 5, 3) := by decide +kernel
theorem dX3_walk_163 : decode cX3_walk 163 = .ok (.iconst 1, 1) := by decide +kernel
theorem dX3_walk_164 : decode cX3_walk 164 = .ok (.ireturn, 1) := by decide +kernel
theorem dX3_walk_165 : decode cX3_walk 165 = .ok (.iinc 6 1, 3) := by decide +kernel
theorem dX3_walk_168 : decode cX3_walk 168 = .ok (.goto (-157), 3) := by decide +kernel
theorem dX3_walk_171 : decode cX3_walk 171 = .ok (.iconst 0, 1) := by decide +kernel
theorem dX3_walk_172 : decode cX3_walk 172 = .ok (.ireturn, 1) := by decide +kernel
set_option maxRecDepth 20000 in
theorem ggX3_isTarget_X8_isWithin : GoodIn wsX3_isTarget wsX8_isWithin := goodIn_r _ [10] (by decide +kernel) (by decide +kernel)
set_option maxRecDepth 20000 in
theorem gX3_isTarget_X8_isWithin_n50 : GoodIn wsX3_isTarget (wsX8_isWithin) := ggX3_isTarget_X8_isWithin
theorem dX3_isTarget_0 : decode cX3_isTarget 0 = .ok (.iload_n 2, 1) := by decide +kernel
theorem dX3_isTarget_1 : decode cX3_isTarget 1 = .ok (.aload_n 0, 1) := by decide +kernel
theorem dX3_isTarget_2 : decode cX3_isTarget 2 = .ok (.getfield 58, 3) := by decide +kernel
theorem dX3_isTarget_5 : decode cX3_isTarget 5 = .ok (.aload_n 0, 1) := by decide +kernel
theorem dX3_isTarget_6 : decode cX3_isTarget 6 = .ok (.getfield 61, 3) := by decide +kernel
theorem dX3_isTarget_9 : decode cX3_isTarget 9 = .ok (.invokestatic 50, 3) := by decide +kernel
theorem dX3_isTarget_12 : decode cX3_isTarget 12 = .ok (.ifCond .eq 16, 3) := by decide +kernel
theorem dX3_isTarget_15 : decode cX3_isTarget 15 = .ok (.iload_n 3, 1) := by decide +kernel
theorem dX3_isTarget_16 : decode cX3_isTarget 16 = .ok (.aload_n 0, 1) := by decide +kernel
theorem dX3_isTarget_17 : decode cX3_isTarget 17 = .ok (.getfield 64, 3) := by decide +kernel
theorem dX3_isTarget_20 : decode cX3_isTarget 20 = .ok (.iand, 1) := by decide +kernel
theorem dX3_isTarget_21 : decode cX3_isTarget 21 = .ok (.aload_n 0, 1) := by decide +kernel
theorem dX3_isTarget_22 : decode cX3_isTarget 22 = .ok (.getfield 64, 3) := by decide +kernel
theorem dX3_isTarget_25 : decode cX3_isTarget 25 = .ok (.if_icmp .eq 5, 3) := by decide +kernel
theorem dX3_isTarget_28 : decode cX3_isTarget 28 = .ok (.iconst 0, 1) := by decide +kernel
theorem dX3_isTarget_29 : decode cX3_isTarget 29 = .ok (.ireturn, 1) := by decide +kernel
theorem dX3_isTarget_30 : decode cX3_isTarget 30 = .ok (.aload_n 0, 1) := by decide +kernel
theorem dX3_isTarget_31 : decode cX3_isTarget 31 = .ok (.getfield 71, 3) := by decide +kernel
theorem dX3_isTarget_34 : decode cX3_isTarget 34 = .ok (.aload_n 0, 1) := by decide +kernel
theorem dX3_isTarget_35 : decode cX3_isTarget 35 = .ok (.getfield 93, 3) := by decide +kernel
theorem dX3_isTarget_38 : decode cX3_isTarget 38 = .ok (.if_icmp .ne 15, 3) := by decide +kernel
theorem dX3_isTarget_41 : decode cX3_isTarget 41 = .ok (.aload_n 0, 1) := by decide +kernel
theorem dX3_isTarget_42 : decode cX3_isTarget 42 = .ok (.iload_n 1, 1) := by decide +kernel
theorem dX3_isTarget_43 : decode cX3_isTarget 43 = .ok (.putfield 84, 3) := by decide +kernel
theorem dX3_isTarget_46 : decode cX3_isTarget 46 = .ok (.aload_n 0, 1) := by decide +kernel
theorem dX3_isTarget_47 : decode cX3_isTarget 47 = .ok (.iload_n 2, 1) := by decide +kernel
theorem dX3_isTarget_48 : decode cX3_isTarget 48 = .ok (.putfield 90, 3) := by decide +kernel
theorem dX3_isTarget_51 : decode cX3_isTarget 51 = .ok (.iconst 1, 1) := by decide +kernel
theorem dX3_isTarget_52 : decode cX3_isTarget 52 = .ok (.ireturn, 1) := by decide +kernel
theorem dX3_isTarget_53 : decode cX3_isTarget 53 = .ok (.aload_n 0, 1) := by decide +kernel
theorem dX3_isTarget_54 : decode cX3_isTarget 54 = .ok (.dup, 1) := by decide +kernel
theorem dX3_isTarget_55 : decode cX3_isTarget 55 = .ok (.getfield 71, 3) := by decide +kernel
theorem dX3_isTarget_58 : decode cX3_isTarget 58 = .ok (.iconst 1, 1) := by decide +kernel
theorem dX3_isTarget_59 : decode cX3_isTarget 59 = .ok (.iadd, 1) := by decide +kernel
theorem dX3_isTarget_60 : decode cX3_isTarget 60 = .ok (.putfield 71, 3) := by decide +kernel
theorem dX3_isTarget_63 : decode cX3_isTarget 63 = .ok (.iconst 0, 1) := by decide +kernel
theorem dX3_isTarget_64 : decode cX3_isTarget 64 = .ok (.ireturn, 1) := by decide +kernel
theorem dX4_init_0 : decode cX4_init 0 = .ok (.aload_n 0, 1) := by decide +kernel
theorem dX4_init_1 : decode cX4_init 1 = .ok (.invokespecial 1, 3) := by decide +kernel
theorem dX4_init_4 : decode cX4_init 4 = .ok (.aload_n 0, 1) := by decide +kernel
theorem dX4_init_5 : decode cX4_init 5 = .ok (.sipush 600, 3) := by decide +kernel
theorem dX4_init_8 : decode cX4_init 8 = .ok (.newarray .char, 2) := by decide +kernel
theorem dX4_init_10 : decode cX4_init 10 = .ok (.putfield 9, 3) := by decide +kernel
theorem dX4_init_13 : decode cX4_init 13 = .ok (.return_, 1) := by decide +kernel
set_option maxRecDepth 20000 in
theorem ggX4_addEight_X8_isWithin : GoodIn wsX4_addEight wsX8_isWithin := goodIn_r _ [5] (by decide +kernel) (by decide +kernel)
set_option maxRecDepth 20000 in
theorem gX4_addEight_X8_isWithin_n13 : GoodIn wsX4_addEight (wsX8_isWithin) := ggX4_addEight_X8_isWithin
theorem dX4_addEight_0 : decode cX4_addEight 0 = .ok (.bipush 56, 2) := by decide +kernel
theorem dX4_addEight_2 : decode cX4_addEight 2 = .ok (.istore_n 3, 1) := by decide +kernel
theorem dX4_addEight_3 : decode cX4_addEight 3 = .ok (.iload_n 3, 1) := by decide +kernel
theorem dX4_addEight_4 : decode cX4_addEight 4 = .ok (.ifCond .lt 82, 3) := by decide +kernel
theorem dX4_addEight_7 : decode cX4_addEight 7 = .ok (.lload_n 1, 1) := by decide +kernel
theorem dX4_addEight_8 : decode cX4_addEight 8 = .ok (.iload_n 3, 1) := by decide +kernel
theorem dX4_addEight_9 : decode cX4_addEight 9 = .ok (.lushr, 1) := by decide +kernel
theorem dX4_addEight_10 : decode cX4_addEight 10 = .ok (.l2i, 1) := by decide +kernel
theorem dX4_addEight_11 : decode cX4_addEight 11 = .ok (.sipush 255, 3) := by decide +kernel
theorem dX4_addEight_14 : decode cX4_addEight 14 = .ok (.iand, 1) := by decide +kernel
theorem dX4_addEight_15 : decode cX4_addEight 15 = .ok (.istore 4, 2) := by decide +kernel
theorem dX4_addEight_17 : decode cX4_addEight 17 = .ok (.iload 4, 2) := by decide +kernel
theorem dX4_addEight_19 : decode cX4_addEight 19 = .ok (.bipush 10, 2) := by decide +kernel
theorem dX4_addEight_21 : decode cX4_addEight 21 = .ok (.if_icmp .eq 15, 3) := by decide +kernel
theorem dX4_addEight_24 : decode cX4_addEight 24 = .ok (.iload 4, 2) := by decide +kernel
theorem dX4_addEight_26 : decode cX4_addEight 26 = .ok (.bipush 32, 2) := by decide +kernel
theorem dX4_addEight_28 : decode cX4_addEight 28 = .ok (.bipush 126, 2) := by decide +kernel
theorem dX4_addEight_30 : decode cX4_addEight 30 = .ok (.invokestatic 13, 3) := by decide +kernel
theorem dX4_addEight_33 : decode cX4_addEight 33 = .ok (.ifCond .eq 7, 3) := by decide +kernel
theorem dX4_addEight_36 : decode cX4_addEight 36 = .ok (.iconst 1, 1) := by decide +kernel
theorem dX4_addEight_37 : decode cX4_addEight 37 = .ok (.goto 4, 3) := by decide +kernel
theorem dX4_addEight_40 : decode cX4_addEight 40 = .ok (.iconst 0, 1) := by decide +kernel
theorem dX4_addEight_41 : decode cX4_addEight 41 = .ok (.istore 5, 2) := by decide +kernel
theorem dX4_addEight_43 : decode cX4_addEight 43 = .ok (.iload 5, 2) := by decide +kernel
theorem dX4_addEight_45 : decode cX4_addEight 45 = .ok (.ifCond .eq 35, 3) := by decide +kernel
theorem dX4_addEight_48 : decode cX4_addEight 48 = .ok (.aload_n 0, 1) := by decide +kernel
theorem dX4_addEight_49 : decode cX4_addEight 49 = .ok (.getfield 19, 3) := by decide +kernel
theorem dX4_addEight_52 : decode cX4_addEight 52 = .ok (.sipush 600, 3) := by decide +kernel
theorem dX4_addEight_55 : decode cX4_addEight 55 = .ok (.if_icmp .ge 25, 3) := by decide +kernel
theorem dX4_addEight_58 : decode cX4_addEight 58 = .ok (.aload_n 0, 1) := by decide +kernel
theorem dX4_addEight_59 : decode cX4_addEight 59 = .ok (.getfield 9, 3) := by decide +kernel
theorem dX4_addEight_62 : decode cX4_addEight 62 = .ok (.aload_n 0, 1) := by decide +kernel
theorem dX4_addEight_63 : decode cX4_addEight 63 = .ok (.getfield 19, 3) := by decide +kernel
theorem dX4_addEight_66 : decode cX4_addEight 66 = .ok (.iload 4, 2) := by decide +kernel
theorem dX4_addEight_68 : decode cX4_addEight 68 = .ok (.i2c, 1) := by decide +kernel
theorem dX4_addEight_69 : decode cX4_addEight 69 = .ok (.castore, 1) := by decide +kernel
theorem dX4_addEight_70 : decode cX4_addEight 70 = .ok (.aload_n 0, 1) := by decide +kernel
theorem dX4_addEight_71 : decode cX4_addEight 71 = .ok (.dup, 1) := by decide +kernel
theorem dX4_addEight_72 : decode cX4_addEight 72 = .ok (.getfield 19, 3) := by decide +kernel
theorem dX4_addEight_75 : decode cX4_addEight 75 = .ok (.iconst 1, 1) := by decide +kernel
theorem dX4_addEight_76 : decode cX4_addEight 76 = .ok (.iadd, 1) := by decide +kernel
theorem dX4_addEight_77 : decode cX4_addEight 77 = .ok (.putfield 19, 3) := by decide +kernel
theorem dX4_addEight_80 : decode cX4_addEight 80 = .ok (.iinc 3 (-8), 3) := by decide +kernel
theorem dX4_addEight_83 : decode cX4_addEight 83 = .ok (.goto (-80), 3) := by decide +kernel
theorem dX4_addEight_86 : decode cX4_addEight 86 = .ok (.return_, 1) := by decide +kernel
theorem dX5_init_0 : decode cX5_init 0 = .ok (.aload_n 0, 1) := by decide +kernel
theorem dX5_init_1 : decode cX5_init 1 = .ok (.invokespecial 3, 3) := by decide +kernel
theorem dX5_init_4 : decode cX5_init 4 = .ok (.aload_n 0, 1) := by decide +kernel
theorem dX5_init_5 : decode cX5_init 5 = .ok (.bipush 16, 2) := by decide +kernel
theorem dX5_init_7 : decode cX5_init 7 = .ok (.newarray .int, 2) := by decide +kernel
theorem dX5_init_9 : decode cX5_init 9 = .ok (.putfield 9, 3) := by decide +kernel
theorem dX5_init_12 : decode cX5_init 12 = .ok (.aload_n 0, 1) := by decide +kernel
theorem dX5_init_13 : decode cX5_init 13 = .ok (.bipush 16, 2) := by decide +kernel
theorem dX5_init_15 : decode cX5_init 15 = .ok (.newarray .int, 2) := by decide +kernel
theorem dX5_init_17 : decode cX5_init 17 = .ok (.putfield 13, 3) := by decide +kernel
theorem dX5_init_20 : decode cX5_init 20 = .ok (.aload_n 0, 1) := by decide +kernel
theorem dX5_init_21 : decode cX5_init 21 = .ok (.sipush 600, 3) := by decide +kernel
theorem dX5_init_24 : decode cX5_init 24 = .ok (.newarray .int, 2) := by decide +kernel
theorem dX5_init_26 : decode cX5_init 26 = .ok (.putfield 18, 3) := by decide +kernel
theorem dX5_init_29 : decode cX5_init 29 = .ok (.aload_n 0, 1) := by decide +kernel
theorem dX5_init_30 : decode cX5_init 30 = .ok (.bipush 16, 2) := by decide +kernel
theorem dX5_init_32 : decode cX5_init 32 = .ok (.newarray .int, 2) := by decide +kernel
theorem dX5_init_34 : decode cX5_init 34 = .ok (.putfield 21, 3) := by decide +kernel
theorem dX5_init_37 : decode cX5_init 37 = .ok (.return_, 1) := by decide +kernel
theorem dX5_clear_0 : decode cX5_clear 0 = .ok (.aload_n 0, 1) := by decide +kernel
theorem dX5_clear_1 : decode cX5_clear 1 = .ok (.iconst 0, 1) := by decide +kernel
theorem dX5_clear_2 : decode cX5_clear 2 = .ok (.putfield 24, 3) := by decide +kernel
theorem dX5_clear_5 : decode cX5_clear 5 = .ok (.aload_n 0, 1) := by decide +kernel
theorem dX5_clear_6 : decode cX5_clear 6 = .ok (.iconst 0, 1) := by decide +kernel
theorem dX5_clear_7 : decode cX5_clear 7 = .ok (.putfield 28, 3) := by decide +kernel
theorem dX5_clear_10 : decode cX5_clear 10 = .ok (.return_, 1) := by decide +kernel
theorem dX5_addCode_0 : decode cX5_addCode 0 = .ok (.aload_n 0, 1) := by decide +kernel
theorem dX5_addCode_1 : decode cX5_addCode 1 = .ok (.getfield 28, 3) := by decide +kernel
theorem dX5_addCode_4 : decode cX5_addCode 4 = .ok (.aload_n 0, 1) := by decide +kernel
theorem dX5_addCode_5 : decode cX5_addCode 5 = .ok (.getfield 18, 3) := by decide +kernel
theorem dX5_addCode_8 : decode cX5_addCode 8 = .ok (.arraylength, 1) := by decide +kernel
theorem dX5_addCode_9 : decode cX5_addCode 9 = .ok (.if_icmp .ge 23, 3) := by decide +kernel
theorem dX5_addCode_12 : decode cX5_addCode 12 = .ok (.aload_n 0, 1) := by decide +kernel
theorem dX5_addCode_13 : decode cX5_addCode 13 = .ok (.getfield 18, 3) := by decide +kernel
theorem dX5_addCode_16 : decode cX5_addCode 16 = .ok (.aload_n 0, 1) := by decide +kernel
theorem dX5_addCode_17 : decode cX5_addCode 17 = .ok (.getfield 28, 3) := by decide +kernel
theorem dX5_addCode_20 : decode cX5_addCode 20 = .ok (.iload_n 1, 1) := by decide +kernel
theorem dX5_addCode_21 : decode cX5_addCode 21 = .ok (.iastore, 1) := by decide +kernel
theorem dX5_addCode_22 : decode cX5_addCode 22 = .ok (.aload_n 0, 1) := by decide +kernel
theorem dX5_addCode_23 : decode cX5_addCode 23 = .ok (.dup, 1) := by decide +kernel
theorem dX5_addCode_24 : decode cX5_addCode 24 = .ok (.getfield 28, 3) := by decide +kernel
theorem dX5_addCode_27 : decode cX5_addCode 27 = .ok (.iconst 1, 1) := by decide +kernel
theorem dX5_addCode_28 : decode cX5_addCode 28 = .ok (.iadd, 1) := by decide +kernel
theorem dX5_addCode_29 : decode cX5_addCode 29 = .ok (.putfield 28, 3) := by decide +kernel
theorem dX5_addCode_32 : decode cX5_addCode 32 = .ok (.return_, 1) := by decide +kernel
theorem dX5_addLine_0 : decode cX5_addLine 0 = .ok (.aload_n 0, 1) := by decide +kernel
theorem dX5_addLine_1 : decode cX5_addLine 1 = .ok (.getfield 24, 3) := by decide +kernel
theorem dX5_addLine_4 : decode cX5_addLine 4 = .ok (.bipush 16, 2) := by decide +kernel
theorem dX5_addLine_6 : decode cX5_addLine 6 = .ok (.if_icmp .ge 36, 3) := by decide +kernel
theorem dX5_addLine_9 : decode cX5_addLine 9 = .ok (.aload_n 0, 1) := by decide +kernel
theorem dX5_addLine_10 : decode cX5_addLine 10 = .ok (.getfield 9, 3) := by decide +kernel
theorem dX5_addLine_13 : decode cX5_addLine 13 = .ok (.aload_n 0, 1) := by decide +kernel
theorem dX5_addLine_14 : decode cX5_addLine 14 = .ok (.getfield 24, 3) := by decide +kernel
theorem dX5_addLine_17 : decode cX5_addLine 17 = .ok (.iload_n 1, 1) := by decide +kernel
theorem dX5_addLine_18 : decode cX5_addLine 18 = .ok (.iastore, 1) := by decide +kernel
theorem dX5_addLine_19 : decode cX5_addLine 19 = .ok (.aload_n 0, 1) := by decide +kernel
theorem dX5_addLine_20 : decode cX5_addLine 20 = .ok (.getfield 13, 3) := by decide +kernel
theorem dX5_addLine_23 : decode cX5_addLine 23 = .ok (.aload_n 0, 1) := by decide +kernel
theorem dX5_addLine_24 : decode cX5_addLine 24 = .ok (.getfield 24, 3) := by decide +kernel
theorem dX5_addLine_27 : decode cX5_addLine 27 = .ok (.aload_n 0, 1) := by decide +kernel
theorem dX5_addLine_28 : decode cX5_addLine 28 = .ok (.getfield 28, 3) := by decide +kernel
theorem dX5_addLine_31 : decode cX5_addLine 31 = .ok (.iastore, 1) := by decide +kernel
theorem dX5_addLine_32 : decode cX5_addLine 32 = .ok (.aload_n 0, 1) := by decide +kernel
theorem dX5_addLine_33 : decode cX5_addLine 33 = .ok (.dup, 1) := by decide +kernel
theorem dX5_addLine_34 : decode cX5_addLine 34 = .ok (.getfield 24, 3) := by decide +kernel
theorem dX5_addLine_37 : decode cX5_addLine 37 = .ok (.iconst 1, 1) := by decide +kernel
theorem dX5_addLine_38 : decode cX5_addLine 38 = .ok (.iadd, 1) := by decide +kernel
theorem dX5_addLine_39 : decode cX5_addLine 39 = .ok (.putfield 24, 3) := by decide +kernel
theorem dX5_addLine_42 : decode cX5_addLine 42 = .ok (.return_, 1) := by decide +kernel
set_option maxRecDepth 20000 in
theorem ggX5_rankBy_X5_valueOf : GoodIn wsX5_rankBy wsX5_valueOf := goodIn_r _ [8, 9, 10, 11, 12, 7, 13, 14, 15, 16, 17, 18, 19] (by decide +kernel) (by decide +kernel)
set_option maxRecDepth 20000 in
theorem gX5_rankBy_X5_valueOf : GoodIn wsX5_rankBy (wsV RX5 31 RX5 yX5_valueOf wsX5_valueOf) := goodIn_app (goodIn_of _ (by decide +kernel)) ggX5_rankBy_X5_valueOf
theorem dX5_rankBy_0 : decode cX5_rankBy 0 = .ok (.iconst 0, 1) := by decide +kernel
theorem dX5_rankBy_1 : decode cX5_rankBy 1 = .ok (.istore_n 2, 1) := by decide +kernel
theorem dX5_rankBy_2 : decode cX5_rankBy 2 = .ok (.iconst 0, 1) := by decide +kernel
theorem dX5_rankBy_3 : decode cX5_rankBy 3 = .ok (.istore_n 3, 1) := by decide +kernel
theorem dX5_rankBy_4 : decode cX5_rankBy 4 = .ok (.iload_n 3, 1) := by decide +kernel
theorem dX5_rankBy_5 : decode cX5_rankBy 5 = .ok (.aload_n 0, 1) := by decide +kernel
theorem dX5_rankBy_6 : decode cX5_rankBy 6 = .ok (.getfield 24, 3) := by decide +kernel
theorem dX5_rankBy_9 : decode cX5_rankBy 9 = .ok (.if_icmp .ge 38, 3) := by decide +kernel
theorem dX5_rankBy_12 : decode cX5_rankBy 12 = .ok (.aload_n 0, 1) := by decide +kernel
theorem dX5_rankBy_13 : decode cX5_rankBy 13 = .ok (.iload_n 2, 1) := by decide +kernel
theorem dX5_rankBy_14 : decode cX5_rankBy 14 = .ok (.aload_n 0, 1) := by decide +kernel
theorem dX5_rankBy_15 : decode cX5_rankBy 15 = .ok (.getfield 13, 3) := by decide +kernel
theorem dX5_rankBy_18 : decode cX5_rankBy 18 = .ok (.iload_n 3, 1) := by decide +kernel
theorem dX5_rankBy_19 : decode cX5_rankBy 19 = .ok (.iaload, 1) := by decide +kernel
theorem dX5_rankBy_20 : decode cX5_rankBy 20 = .ok (.aload_n 1, 1) := by decide +kernel
theorem dX5_rankBy_21 : decode cX5_rankBy 21 = .ok (.invokevirtual 31, 3) := by decide +kernel
theorem dX5_rankBy_24 : decode cX5_rankBy 24 = .ok (.ifCond .eq 10, 3) := by decide +kernel
theorem dX5_rankBy_27 : decode cX5_rankBy 27 = .ok (.aload_n 0, 1) := by decide +kernel
theorem dX5_rankBy_28 : decode cX5_rankBy 28 = .ok (.getfield 9, 3) := by decide +kernel
theorem dX5_rankBy_31 : decode cX5_rankBy 31 = .ok (.iload_n 3, 1) := by decide +kernel
theorem dX5_rankBy_32 : decode cX5_rankBy 32 = .ok (.iaload, 1) := by decide +kernel
theorem dX5_rankBy_33 : decode cX5_rankBy 33 = .ok (.ireturn, 1) := by decide +kernel
theorem dX5_rankBy_34 : decode cX5_rankBy 34 = .ok (.aload_n 0, 1) := by decide +kernel
theorem dX5_rankBy_35 : decode cX5_rankBy 35 = .ok (.getfield 13, 3) := by decide +kernel
theorem dX5_rankBy_38 : decode cX5_rankBy 38 = .ok (.iload_n 3, 1) := by decide +kernel
theorem dX5_rankBy_39 : decode cX5_rankBy 39 = .ok (.iaload, 1) := by decide +kernel
theorem dX5_rankBy_40 : decode cX5_rankBy 40 = .ok (.istore_n 2, 1) := by decide +kernel
theorem dX5_rankBy_41 : decode cX5_rankBy 41 = .ok (.iinc 3 1, 3) := by decide +kernel
theorem dX5_rankBy_44 : decode cX5_rankBy 44 = .ok (.goto (-40), 3) := by decide +kernel
theorem dX5_rankBy_47 : decode cX5_rankBy 47 = .ok (.iconst 0, 1) := by decide +kernel
theorem dX5_rankBy_48 : decode cX5_rankBy 48 = .ok (.ireturn, 1) := by decide +kernel
set_option maxRecDepth 20000 in
theorem ggX5_valueOf_X5_joined : GoodIn wsX5_valueOf wsX5_joined := goodIn_r _ [6] (by decide +kernel) (by decide +kernel)
set_option maxRecDepth 20000 in
theorem gX5_valueOf_X5_joined : GoodIn wsX5_valueOf (va_wsS RX5 37 yX5_joined wsX5_joined) := goodIn_app (goodIn_of _ (by decide +kernel)) ggX5_valueOf_X5_joined
theorem dX5_valueOf_0 : decode cX5_valueOf 0 = .ok (.iconst 0, 1) := by decide +kernel
theorem dX5_valueOf_1 : decode cX5_valueOf 1 = .ok (.istore 4, 2) := by decide +kernel
theorem dX5_valueOf_3 : decode cX5_valueOf 3 = .ok (.iload_n 1, 1) := by decide +kernel
theorem dX5_valueOf_4 : decode cX5_valueOf 4 = .ok (.istore 5, 2) := by decide +kernel
theorem dX5_valueOf_6 : decode cX5_valueOf 6 = .ok (.iload 5, 2) := by decide +kernel
theorem dX5_valueOf_8 : decode cX5_valueOf 8 = .ok (.iload_n 2, 1) := by decide +kernel
theorem dX5_valueOf_9 : decode cX5_valueOf 9 = .ok (.if_icmp .ge 114, 3) := by decide +kernel
theorem dX5_valueOf_12 : decode cX5_valueOf 12 = .ok (.aload_n 0, 1) := by decide +kernel
theorem dX5_valueOf_13 : decode cX5_valueOf 13 = .ok (.getfield 18, 3) := by decide +kernel
theorem dX5_valueOf_16 : decode cX5_valueOf 16 = .ok (.iload 5, 2) := by decide +kernel
theorem dX5_valueOf_18 : decode cX5_valueOf 18 = .ok (.iaload, 1) := by decide +kernel
theorem dX5_valueOf_19 : decode cX5_valueOf 19 = .ok (.istore 6, 2) := by decide +kernel
theorem dX5_valueOf_21 : decode cX5_valueOf 21 = .ok (.iload 6, 2) := by decide +kernel
theorem dX5_valueOf_23 : decode cX5_valueOf 23 = .ok (.sipush 10005, 3) := by decide +kernel
theorem dX5_valueOf_26 : decode cX5_valueOf 26 = .ok (.if_icmp .le 45, 3) := by decide +kernel
theorem dX5_valueOf_29 : decode cX5_valueOf 29 = .ok (.iload 4, 2) := by decide +kernel
theorem dX5_valueOf_31 : decode cX5_valueOf 31 = .ok (.iconst 2, 1) := by decide +kernel
theorem dX5_valueOf_32 : decode cX5_valueOf 32 = .ok (.if_icmp .lt 39, 3) := by decide +kernel
theorem dX5_valueOf_35 : decode cX5_valueOf 35 = .ok (.iinc 4 (-1), 3) := by decide +kernel
theorem dX5_valueOf_38 : decode cX5_valueOf 38 = .ok (.aload_n 0, 1) := by decide +kernel
theorem dX5_valueOf_39 : decode cX5_valueOf 39 = .ok (.getfield 21, 3) := by decide +kernel
theorem dX5_valueOf_42 : decode cX5_valueOf 42 = .ok (.iload 4, 2) := by decide +kernel
theorem dX5_valueOf_44 : decode cX5_valueOf 44 = .ok (.iconst 1, 1) := by decide +kernel
theorem dX5_valueOf_45 : decode cX5_valueOf 45 = .ok (.isub, 1) := by decide +kernel
theorem dX5_valueOf_46 : decode cX5_valueOf 46 = .ok (.iload 6, 2) := by decide +kernel
theorem dX5_valueOf_48 : decode cX5_valueOf 48 = .ok (.aload_n 0, 1) := by decide +kernel
theorem dX5_valueOf_49 : decode cX5_valueOf 49 = .ok (.getfield 21, 3) := by decide +kernel
theorem dX5_valueOf_52 : decode cX5_valueOf 52 = .ok (.iload 4, 2) := by decide +kernel
theorem dX5_valueOf_54 : decode cX5_valueOf 54 = .ok (.iconst 1, 1) := by decide +kernel
theorem dX5_valueOf_55 : decode cX5_valueOf 55 = .ok (.isub, 1) := by decide +kernel
theorem dX5_valueOf_56 : decode cX5_valueOf 56 = .ok (.iaload, 1) := by decide +kernel
theorem dX5_valueOf_57 : decode cX5_valueOf 57 = .ok (.aload_n 0, 1) := by decide +kernel
theorem dX5_valueOf_58 : decode cX5_valueOf 58 = .ok (.getfield 21, 3) := by decide +kernel
theorem dX5_valueOf_61 : decode cX5_valueOf 61 = .ok (.iload 4, 2) := by decide +kernel
theorem dX5_valueOf_63 : decode cX5_valueOf 63 = .ok (.iaload, 1) := by decide +kernel
theorem dX5_valueOf_64 : decode cX5_valueOf 64 = .ok (.invokestatic 37, 3) := by decide +kernel
theorem dX5_valueOf_67 : decode cX5_valueOf 67 = .ok (.iastore, 1) := by decide +kernel
theorem dX5_valueOf_68 : decode cX5_valueOf 68 = .ok (.goto 49, 3) := by decide +kernel
theorem dX5_valueOf_71 : decode cX5_valueOf 71 = .ok (.iload 6, 2) := by decide +kernel
theorem dX5_valueOf_73 : decode cX5_valueOf 73 = .ok (.sipush 10005, 3) := by decide +kernel
theorem dX5_valueOf_76 : decode cX5_valueOf 76 = .ok (.if_icmp .gt 41, 3) := by decide +kernel
theorem dX5_valueOf_79 : decode cX5_valueOf 79 = .ok (.iload 4, 2) := by decide +kernel
theorem dX5_valueOf_81 : decode cX5_valueOf 81 = .ok (.bipush 16, 2) := by decide +kernel
theorem dX5_valueOf_83 : decode cX5_valueOf 83 = .ok (.if_icmp .ge 34, 3) := by decide +kernel
theorem dX5_valueOf_86 : decode cX5_valueOf 86 = .ok (.aload_n 0, 1) := by decide +kernel
theorem dX5_valueOf_87 : decode cX5_valueOf 87 = .ok (.getfield 21, 3) := by decide +kernel
theorem dX5_valueOf_90 : decode cX5_valueOf 90 = .ok (.iload 4, 2) := by decide +kernel
theorem dX5_valueOf_92 : decode cX5_valueOf 92 = .ok (.iload 6, 2) := by decide +kernel
theorem dX5_valueOf_94 : decode cX5_valueOf 94 = .ok (.sipush 9999, 3) := by decide +kernel
theorem dX5_valueOf_97 : decode cX5_valueOf 97 = .ok (.if_icmp .gt 8, 3) := by decide +kernel
theorem dX5_valueOf_100 : decode cX5_valueOf 100 = .ok (.iload 6, 2) := by decide +kernel
theorem dX5_valueOf_102 : decode cX5_valueOf 102 = .ok (.goto 11, 3) := by decide +kernel
theorem dX5_valueOf_105 : decode cX5_valueOf 105 = .ok (.aload_n 3, 1) := by decide +kernel
theorem dX5_valueOf_106 : decode cX5_valueOf 106 = .ok (.iload 6, 2) := by decide +kernel
theorem dX5_valueOf_108 : decode cX5_valueOf 108 = .ok (.sipush 10000, 3) := by decide +kernel
theorem dX5_valueOf_111 : decode cX5_valueOf 111 = .ok (.isub, 1) := by decide +kernel
theorem dX5_valueOf_112 : decode cX5_valueOf 112 = .ok (.iaload, 1) := by decide +kernel
theorem dX5_valueOf_113 : decode cX5_valueOf 113 = .ok (.iastore, 1) := by decide +kernel
theorem dX5_valueOf_114 : decode cX5_valueOf 114 = .ok (.iinc 4 1, 3) := by decide +kernel
theorem dX5_valueOf_117 : decode cX5_valueOf 117 = .ok (.iinc 5 1, 3) := by decide +kernel
theorem dX5_valueOf_120 : decode cX5_valueOf 120 = .ok (.goto (-114), 3) := by decide +kernel
theorem dX5_valueOf_123 : decode cX5_valueOf 123 = .ok (.aload_n 0, 1) := by decide +kernel
theorem dX5_valueOf_124 : decode cX5_valueOf 124 = .ok (.getfield 21, 3) := by decide +kernel
theorem dX5_valueOf_127 : decode cX5_valueOf 127 = .ok (.iconst 0, 1) := by decide +kernel
theorem dX5_valueOf_128 : decode cX5_valueOf 128 = .ok (.iaload, 1) := by decide +kernel
theorem dX5_valueOf_129 : decode cX5_valueOf 129 = .ok (.ireturn, 1) := by decide +kernel
theorem dX5_joined_0 : decode cX5_joined 0 = .ok (.iload_n 0, 1) := by decide +kernel
theorem dX5_joined_1 : decode cX5_joined 1 = .ok (.tableswitch 61 10006 10009 #[31, 35, 39, 50], 31) := by decide +kernel
theorem dX5_joined_32 : decode cX5_joined 32 = .ok (.iload_n 1, 1) := by decide +kernel
theorem dX5_joined_33 : decode cX5_joined 33 = .ok (.iload_n 2, 1) := by decide +kernel
theorem dX5_joined_34 : decode cX5_joined 34 = .ok (.iadd, 1) := by decide +kernel
theorem dX5_joined_35 : decode cX5_joined 35 = .ok (.ireturn, 1) := by decide +kernel
theorem dX5_joined_36 : decode cX5_joined 36 = .ok (.iload_n 1, 1) := by decide +kernel
theorem dX5_joined_37 : decode cX5_joined 37 = .ok (.iload_n 2, 1) := by decide +kernel
theorem dX5_joined_38 : decode cX5_joined 38 = .ok (.isub, 1) := by decide +kernel
theorem dX5_joined_39 : decode cX5_joined 39 = .ok (.ireturn, 1) := by decide +kernel
theorem dX5_joined_40 : decode cX5_joined 40 = .ok (.iload_n 1, 1) := by decide +kernel
theorem dX5_joined_41 : decode cX5_joined 41 = .ok (.iload_n 2, 1) := by decide +kernel
theorem dX5_joined_42 : decode cX5_joined 42 = .ok (.if_icmp .ge 7, 3) := by decide +kernel
theorem dX5_joined_45 : decode cX5_joined 45 = .ok (.iconst 1, 1) := by decide +kernel
theorem dX5_joined_46 : decode cX5_joined 46 = .ok (.goto 4, 3) := by decide +kernel
theorem dX5_joined_49 : decode cX5_joined 49 = .ok (.iconst 0, 1) := by decide +kernel
theorem dX5_joined_50 : decode cX5_joined 50 = .ok (.ireturn, 1) := by decide +kernel
theorem dX5_joined_51 : decode cX5_joined 51 = .ok (.iload_n 1, 1) := by decide +kernel
theorem dX5_joined_52 : decode cX5_joined 52 = .ok (.iload_n 2, 1) := by decide +kernel
theorem dX5_joined_53 : decode cX5_joined 53 = .ok (.if_icmp .ne 7, 3) := by decide +kernel
theorem dX5_joined_56 : decode cX5_joined 56 = .ok (.iconst 1, 1) := by decide +kernel
theorem dX5_joined_57 : decode cX5_joined 57 = .ok (.goto 4, 3) := by decide +kernel
theorem dX5_joined_60 : decode cX5_joined 60 = .ok (.iconst 0, 1) := by decide +kernel
theorem dX5_joined_61 : decode cX5_joined 61 = .ok (.ireturn, 1) := by decide +kernel
theorem dX5_joined_62 : decode cX5_joined 62 = .ok (.iload_n 1, 1) := by decide +kernel
theorem dX5_joined_63 : decode cX5_joined 63 = .ok (.ifCond .eq 11, 3) := by decide +kernel
theorem dX5_joined_66 : decode cX5_joined 66 = .ok (.iload_n 2, 1) := by decide +kernel
theorem dX5_joined_67 : decode cX5_joined 67 = .ok (.ifCond .eq 7, 3) := by decide +kernel
theorem dX5_joined_70 : decode cX5_joined 70 = .ok (.iconst 1, 1) := by decide +kernel
theorem dX5_joined_71 : decode cX5_joined 71 = .ok (.goto 4, 3) := by decide +kernel
theorem dX5_joined_74 : decode cX5_joined 74 = .ok (.iconst 0, 1) := by decide +kernel
theorem dX5_joined_75 : decode cX5_joined 75 = .ok (.ireturn, 1) := by decide +kernel
theorem dX6_init_0 : decode cX6_init 0 = .ok (.aload_n 0, 1) := by decide +kernel
theorem dX6_init_1 : decode cX6_init 1 = .ok (.invokespecial 3, 3) := by decide +kernel
theorem dX6_init_4 : decode cX6_init 4 = .ok (.aload_n 0, 1) := by decide +kernel
theorem dX6_init_5 : decode cX6_init 5 = .ok (.sipush 601, 3) := by decide +kernel
theorem dX6_init_8 : decode cX6_init 8 = .ok (.newarray .int, 2) := by decide +kernel
theorem dX6_init_10 : decode cX6_init 10 = .ok (.putfield 11, 3) := by decide +kernel
theorem dX6_init_13 : decode cX6_init 13 = .ok (.aload_n 0, 1) := by decide +kernel
theorem dX6_init_14 : decode cX6_init 14 = .ok (.sipush 601, 3) := by decide +kernel
theorem dX6_init_17 : decode cX6_init 17 = .ok (.newarray .int, 2) := by decide +kernel
theorem dX6_init_19 : decode cX6_init 19 = .ok (.putfield 15, 3) := by decide +kernel
theorem dX6_init_22 : decode cX6_init 22 = .ok (.return_, 1) := by decide +kernel
set_option maxRecDepth 20000 in
theorem ggX6_read_X5_clear : GoodIn wsX6_read wsX5_clear := goodIn_r _ [12, 13, 14, 162, 163, 164, 165, 166, 167] (by decide +kernel) (by decide +kernel)
set_option maxRecDepth 20000 in
theorem gX6_read_X5_clear : GoodIn wsX6_read (wsV RX6 32 RX5 yX5_clear wsX5_clear) := goodIn_app (goodIn_of _ (by decide +kernel)) ggX6_read_X5_clear
set_option maxRecDepth 20000 in
theorem ggX6_read_X6_scan : GoodIn wsX6_read wsX6_scan := goodIn_r _ [19, 20, 4, 2, 21, 22, 18, 23, 24, 25, 26, 27, 28, 29, 30, 31, 32, 33, 34, 35, 36, 37, 38, 39, 40, 41, 42, 43, 44, 45, 46, 47, 48, 49, 50, 51, 52, 53, 54, 55, 56, 57, 58, 59, 60, 61, 62, 63, 64, 65, 66, 67, 68, 69, 70, 71, 72, 73, 74, 75, 76, 77, 78, 79, 80, 81, 82, 83, 84, 85, 86, 87, 88, 89, 90, 91, 92, 93, 94, 95, 96, 97, 98, 99, 100, 101, 102, 103, 104, 105, 106, 107, 154, 155, 156, 157, 158, 159, 160, 161] (by decide +kernel) (by decide +kernel)
set_option maxRecDepth 20000 in
theorem gX6_read_X6_scan : GoodIn wsX6_read (wsV RX6 37 RX6 yX6_scan wsX6_scan) := goodIn_app (goodIn_of _ (by decide +kernel)) ggX6_read_X6_scan
set_option maxRecDepth 20000 in
theorem ggX6_read_X6_peek : GoodIn wsX6_read wsX6_peek := goodIn_r _ [111, 6, 20, 106, 154, 155, 156, 157, 158, 159, 160, 161] (by decide +kernel) (by decide +kernel)
set_option maxRecDepth 20000 in
theorem gX6_read_X6_peek : GoodIn wsX6_read (wsV RX6 46 RX6 yX6_peek wsX6_peek) := goodIn_app (goodIn_of _ (by decide +kernel)) ggX6_read_X6_peek
set_option maxRecDepth 20000 in
theorem ggX6_read_X6_readLine : GoodIn wsX6_read wsX6_readLine := goodIn_r _ [115, 5, 116, 7, 6, 108, 109, 110, 18, 111, 20, 106, 117, 118, 119, 120, 121, 122, 123, 124, 125, 126, 127, 128, 129, 130, 11, 131, 14, 132, 133, 134, 135, 136, 137, 138, 139, 140, 141, 142, 143, 144, 145, 13, 146, 147, 154, 155, 156, 157, 158, 159, 160, 161, 162, 163, 164, 165, 166, 167] (by decide +kernel) (by decide +kernel)
set_option maxRecDepth 20000 in
theorem gX6_read_X6_readLine : GoodIn wsX6_read (wsV RX6 52 RX6 yX6_readLine wsX6_readLine) := goodIn_app (goodIn_of _ (by decide +kernel)) ggX6_read_X6_readLine
set_option maxRecDepth 20000 in
theorem ggX6_read_X6_placeOfNext : GoodIn wsX6_read wsX6_placeOfNext := goodIn_r _ [151, 6, 20, 107, 4, 154, 155, 156, 157, 158, 159, 160, 161] (by decide +kernel) (by decide +kernel)
set_option maxRecDepth 20000 in
theorem gX6_read_X6_placeOfNext : GoodIn wsX6_read (wsV RX6 56 RX6 yX6_placeOfNext wsX6_placeOfNext) := goodIn_app (goodIn_of _ (by decide +kernel)) ggX6_read_X6_placeOfNext
theorem dX6_read_0 : decode cX6_read 0 = .ok (.aload_n 0, 1) := by decide +kernel
theorem dX6_read_1 : decode cX6_read 1 = .ok (.aload_n 1, 1) := by decide +kernel
theorem dX6_read_2 : decode cX6_read 2 = .ok (.getfield 18, 3) := by decide +kernel
theorem dX6_read_5 : decode cX6_read 5 = .ok (.putfield 22, 3) := by decide +kernel
theorem dX6_read_8 : decode cX6_read 8 = .ok (.aload_n 0, 1) := by decide +kernel
theorem dX6_read_9 : decode cX6_read 9 = .ok (.aload_n 1, 1) := by decide +kernel
theorem dX6_read_10 : decode cX6_read 10 = .ok (.getfield 23, 3) := by decide +kernel
theorem dX6_read_13 : decode cX6_read 13 = .ok (.putfield 27, 3) := by decide +kernel
theorem dX6_read_16 : decode cX6_read 16 = .ok (.aload_n 0, 1) := by decide +kernel
theorem dX6_read_17 : decode cX6_read 17 = .ok (.aload_n 2, 1) := by decide +kernel
theorem dX6_read_18 : decode cX6_read 18 = .ok (.putfield 28, 3) := by decide +kernel
theorem dX6_read_21 : decode cX6_read 21 = .ok (.aload_n 0, 1) := by decide +kernel
theorem dX6_read_22 : decode cX6_read 22 = .ok (.getfield 28, 3) := by decide +kernel
theorem dX6_read_25 : decode cX6_read 25 = .ok (.invokevirtual 32, 3) := by decide +kernel
theorem dX6_read_28 : decode cX6_read 28 = .ok (.aload_n 0, 1) := by decide +kernel
theorem dX6_read_29 : decode cX6_read 29 = .ok (.invokevirtual 37, 3) := by decide +kernel
theorem dX6_read_32 : decode cX6_read 32 = .ok (.aload_n 0, 1) := by decide +kernel
theorem dX6_read_33 : decode cX6_read 33 = .ok (.iconst 0, 1) := by decide +kernel
theorem dX6_read_34 : decode cX6_read 34 = .ok (.putfield 40, 3) := by decide +kernel
theorem dX6_read_37 : decode cX6_read 37 = .ok (.aload_n 0, 1) := by decide +kernel
theorem dX6_read_38 : decode cX6_read 38 = .ok (.iconst 1, 1) := by decide +kernel
theorem dX6_read_39 : decode cX6_read 39 = .ok (.putfield 43, 3) := by decide +kernel
theorem dX6_read_42 : decode cX6_read 42 = .ok (.iconst 0, 1) := by decide +kernel
theorem dX6_read_43 : decode cX6_read 43 = .ok (.istore_n 3, 1) := by decide +kernel
theorem dX6_read_44 : decode cX6_read 44 = .ok (.iload_n 3, 1) := by decide +kernel
theorem dX6_read_45 : decode cX6_read 45 = .ok (.bipush 16, 2) := by decide +kernel
theorem dX6_read_47 : decode cX6_read 47 = .ok (.if_icmp .gt 39, 3) := by decide +kernel
theorem dX6_read_50 : decode cX6_read 50 = .ok (.aload_n 0, 1) := by decide +kernel
theorem dX6_read_51 : decode cX6_read 51 = .ok (.invokevirtual 46, 3) := by decide +kernel
theorem dX6_read_54 : decode cX6_read 54 = .ok (.sipush 10016, 3) := by decide +kernel
theorem dX6_read_57 : decode cX6_read 57 = .ok (.if_icmp .eq 29, 3) := by decide +kernel
theorem dX6_read_60 : decode cX6_read 60 = .ok (.aload_n 0, 1) := by decide +kernel
theorem dX6_read_61 : decode cX6_read 61 = .ok (.invokevirtual 52, 3) := by decide +kernel
theorem dX6_read_64 : decode cX6_read 64 = .ok (.ifCond .ne 16, 3) := by decide +kernel
theorem dX6_read_67 : decode cX6_read 67 = .ok (.aload_n 0, 1) := by decide +kernel
theorem dX6_read_68 : decode cX6_read 68 = .ok (.getfield 43, 3) := by decide +kernel
theorem dX6_read_71 : decode cX6_read 71 = .ok (.bipush 16, 2) := by decide +kernel
theorem dX6_read_73 : decode cX6_read 73 = .ok (.aload_n 0, 1) := by decide +kernel
theorem dX6_read_74 : decode cX6_read 74 = .ok (.invokevirtual 56, 3) := by decide +kernel
theorem dX6_read_77 : decode cX6_read 77 = .ok (.imul, 1) := by decide +kernel
theorem dX6_read_78 : decode cX6_read 78 = .ok (.iadd, 1) := by decide +kernel
theorem dX6_read_79 : decode cX6_read 79 = .ok (.ireturn, 1) := by decide +kernel
theorem dX6_read_80 : decode cX6_read 80 = .ok (.iinc 3 1, 3) := by decide +kernel
theorem dX6_read_83 : decode cX6_read 83 = .ok (.goto (-39), 3) := by decide +kernel
theorem dX6_read_86 : decode cX6_read 86 = .ok (.iconst 0, 1) := by decide +kernel
theorem dX6_read_87 : decode cX6_read 87 = .ok (.ireturn, 1) := by decide +kernel
theorem dX6_placeOfNext_0 : decode cX6_placeOfNext 0 = .ok (.aload_n 0, 1) := by decide +kernel
theorem dX6_placeOfNext_1 : decode cX6_placeOfNext 1 = .ok (.getfield 40, 3) := by decide +kernel
theorem dX6_placeOfNext_4 : decode cX6_placeOfNext 4 = .ok (.aload_n 0, 1) := by decide +kernel
theorem dX6_placeOfNext_5 : decode cX6_placeOfNext 5 = .ok (.getfield 59, 3) := by decide +kernel
theorem dX6_placeOfNext_8 : decode cX6_placeOfNext 8 = .ok (.if_icmp .ge 15, 3) := by decide +kernel
theorem dX6_placeOfNext_11 : decode cX6_placeOfNext 11 = .ok (.aload_n 0, 1) := by decide +kernel
theorem dX6_placeOfNext_12 : decode cX6_placeOfNext 12 = .ok (.getfield 15, 3) := by decide +kernel
theorem dX6_placeOfNext_15 : decode cX6_placeOfNext 15 = .ok (.aload_n 0, 1) := by decide +kernel
theorem dX6_placeOfNext_16 : decode cX6_placeOfNext 16 = .ok (.getfield 40, 3) := by decide +kernel
theorem dX6_placeOfNext_19 : decode cX6_placeOfNext 19 = .ok (.iaload, 1) := by decide +kernel
theorem dX6_placeOfNext_20 : decode cX6_placeOfNext 20 = .ok (.goto 7, 3) := by decide +kernel
theorem dX6_placeOfNext_23 : decode cX6_placeOfNext 23 = .ok (.aload_n 0, 1) := by decide +kernel
theorem dX6_placeOfNext_24 : decode cX6_placeOfNext 24 = .ok (.getfield 27, 3) := by decide +kernel
theorem dX6_placeOfNext_27 : decode cX6_placeOfNext 27 = .ok (.ireturn, 1) := by decide +kernel
theorem dX6_peek_0 : decode cX6_peek 0 = .ok (.aload_n 0, 1) := by decide +kernel
theorem dX6_peek_1 : decode cX6_peek 1 = .ok (.getfield 40, 3) := by decide +kernel
theorem dX6_peek_4 : decode cX6_peek 4 = .ok (.aload_n 0, 1) := by decide +kernel
theorem dX6_peek_5 : decode cX6_peek 5 = .ok (.getfield 59, 3) := by decide +kernel
theorem dX6_peek_8 : decode cX6_peek 8 = .ok (.if_icmp .ge 15, 3) := by decide +kernel
theorem dX6_peek_11 : decode cX6_peek 11 = .ok (.aload_n 0, 1) := by decide +kernel
theorem dX6_peek_12 : decode cX6_peek 12 = .ok (.getfield 11, 3) := by decide +kernel
theorem dX6_peek_15 : decode cX6_peek 15 = .ok (.aload_n 0, 1) := by decide +kernel
theorem dX6_peek_16 : decode cX6_peek 16 = .ok (.getfield 40, 3) := by decide +kernel
theorem dX6_peek_19 : decode cX6_peek 19 = .ok (.iaload, 1) := by decide +kernel
theorem dX6_peek_20 : decode cX6_peek 20 = .ok (.goto 6, 3) := by decide +kernel
theorem dX6_peek_23 : decode cX6_peek 23 = .ok (.sipush 10017, 3) := by decide +kernel
theorem dX6_peek_26 : decode cX6_peek 26 = .ok (.ireturn, 1) := by decide +kernel
theorem dX6_take_0 : decode cX6_take 0 = .ok (.aload_n 0, 1) := by decide +kernel
theorem dX6_take_1 : decode cX6_take 1 = .ok (.getfield 40, 3) := by decide +kernel
theorem dX6_take_4 : decode cX6_take 4 = .ok (.aload_n 0, 1) := by decide +kernel
theorem dX6_take_5 : decode cX6_take 5 = .ok (.getfield 59, 3) := by decide +kernel
theorem dX6_take_8 : decode cX6_take 8 = .ok (.if_icmp .ge 16, 3) := by decide +kernel
theorem dX6_take_11 : decode cX6_take 11 = .ok (.aload_n 0, 1) := by decide +kernel
theorem dX6_take_12 : decode cX6_take 12 = .ok (.getfield 11, 3) := by decide +kernel
theorem dX6_take_15 : decode cX6_take 15 = .ok (.aload_n 0, 1) := by decide +kernel
theorem dX6_take_16 : decode cX6_take 16 = .ok (.getfield 40, 3) := by decide +kernel
theorem dX6_take_19 : decode cX6_take 19 = .ok (.iaload, 1) := by decide +kernel
theorem dX6_take_20 : decode cX6_take 20 = .ok (.iload_n 1, 1) := by decide +kernel
theorem dX6_take_21 : decode cX6_take 21 = .ok (.if_icmp .eq 5, 3) := by decide +kernel
theorem dX6_take_24 : decode cX6_take 24 = .ok (.iconst 0, 1) := by decide +kernel
theorem dX6_take_25 : decode cX6_take 25 = .ok (.ireturn, 1) := by decide +kernel
theorem dX6_take_26 : decode cX6_take 26 = .ok (.aload_n 0, 1) := by decide +kernel
theorem dX6_take_27 : decode cX6_take 27 = .ok (.dup, 1) := by decide +kernel
theorem dX6_take_28 : decode cX6_take 28 = .ok (.getfield 40, 3) := by decide +kernel
theorem dX6_take_31 : decode cX6_take 31 = .ok (.iconst 1, 1) := by decide +kernel
theorem dX6_take_32 : decode cX6_take 32 = .ok (.iadd, 1) := by decide +kernel
theorem dX6_take_33 : decode cX6_take 33 = .ok (.putfield 40, 3) := by decide +kernel
theorem dX6_take_36 : decode cX6_take 36 = .ok (.iconst 1, 1) := by decide +kernel
theorem dX6_take_37 : decode cX6_take 37 = .ok (.ireturn, 1) := by decide +kernel
set_option maxRecDepth 20000 in
theorem ggX6_readLine_X6_peek : GoodIn wsX6_readLine wsX6_peek := goodIn_r _ [9, 4, 10, 11, 46, 47, 48, 49, 50, 51, 52, 53] (by decide +kernel) (by decide +kernel)
set_option maxRecDepth 20000 in
theorem gX6_readLine_X6_peek : GoodIn wsX6_readLine (wsV RX6 46 RX6 yX6_peek wsX6_peek) := goodIn_app (goodIn_of _ (by decide +kernel)) ggX6_readLine_X6_peek
set_option maxRecDepth 20000 in
theorem ggX6_readLine_X6_take : GoodIn wsX6_readLine wsX6_take := goodIn_r _ [15, 4, 10, 11, 46, 47, 48, 49, 50, 51, 52, 53] (by decide +kernel) (by decide +kernel)
set_option maxRecDepth 20000 in
theorem gX6_readLine_X6_take : GoodIn wsX6_readLine (wsV RX6 65 RX6 yX6_take wsX6_take) := goodIn_app (goodIn_of _ (by decide +kernel)) ggX6_readLine_X6_take
set_option maxRecDepth 20000 in
theorem ggX6_readLine_X6_readCondition : GoodIn wsX6_readLine wsX6_readCondition := goodIn_r _ [19, 1, 20, 21, 22, 8, 12, 13, 14, 15, 4, 10, 11, 23, 24, 25, 26, 27, 28, 29, 30, 3, 5, 6, 7, 9, 16, 17, 18, 31, 32, 33, 34, 35, 36, 37, 38, 46, 47, 48, 49, 50, 51, 52, 53, 54, 55, 56, 57, 58, 59] (by decide +kernel) (by decide +kernel)
set_option maxRecDepth 20000 in
theorem gX6_readLine_X6_readCondition : GoodIn wsX6_readLine (wsV RX6 69 RX6 yX6_readCondition wsX6_readCondition) := goodIn_app (goodIn_of _ (by decide +kernel)) ggX6_readLine_X6_readCondition
set_option maxRecDepth 20000 in
theorem ggX6_readLine_X5_addLine : GoodIn wsX6_readLine wsX5_addLine := goodIn_r _ [42, 43, 44, 45, 28, 54, 55, 56, 57, 58, 59] (by decide +kernel) (by decide +kernel)
set_option maxRecDepth 20000 in
theorem gX6_readLine_X5_addLine : GoodIn wsX6_readLine (wsV RX6 72 RX5 yX5_addLine wsX5_addLine) := goodIn_app (goodIn_of _ (by decide +kernel)) ggX6_readLine_X5_addLine
theorem dX6_readLine_0 : decode cX6_readLine 0 = .ok (.aload_n 0, 1) := by decide +kernel
theorem dX6_readLine_1 : decode cX6_readLine 1 = .ok (.invokevirtual 46, 3) := by decide +kernel
theorem dX6_readLine_4 : decode cX6_readLine 4 = .ok (.sipush 10011, 3) := by decide +kernel
theorem dX6_readLine_7 : decode cX6_readLine 7 = .ok (.if_icmp .ne 22, 3) := by decide +kernel
theorem dX6_readLine_10 : decode cX6_readLine 10 = .ok (.aload_n 0, 1) := by decide +kernel
theorem dX6_readLine_11 : decode cX6_readLine 11 = .ok (.getfield 28, 3) := by decide +kernel
theorem dX6_readLine_14 : decode cX6_readLine 14 = .ok (.getfield 62, 3) := by decide +kernel
theorem dX6_readLine_17 : decode cX6_readLine 17 = .ok (.bipush 16, 2) := by decide +kernel
theorem dX6_readLine_19 : decode cX6_readLine 19 = .ok (.if_icmp .lt 10, 3) := by decide +kernel
theorem dX6_readLine_22 : decode cX6_readLine 22 = .ok (.aload_n 0, 1) := by decide +kernel
theorem dX6_readLine_23 : decode cX6_readLine 23 = .ok (.iconst 5, 1) := by decide +kernel
theorem dX6_readLine_24 : decode cX6_readLine 24 = .ok (.putfield 43, 3) := by decide +kernel
theorem dX6_readLine_27 : decode cX6_readLine 27 = .ok (.iconst 0, 1) := by decide +kernel
theorem dX6_readLine_28 : decode cX6_readLine 28 = .ok (.ireturn, 1) := by decide +kernel
theorem dX6_readLine_29 : decode cX6_readLine 29 = .ok (.aload_n 0, 1) := by decide +kernel
theorem dX6_readLine_30 : decode cX6_readLine 30 = .ok (.sipush 10011, 3) := by decide +kernel
theorem dX6_readLine_33 : decode cX6_readLine 33 = .ok (.invokevirtual 65, 3) := by decide +kernel
theorem dX6_readLine_36 : decode cX6_readLine 36 = .ok (.ifCond .ne 5, 3) := by decide +kernel
theorem dX6_readLine_39 : decode cX6_readLine 39 = .ok (.iconst 0, 1) := by decide +kernel
theorem dX6_readLine_40 : decode cX6_readLine 40 = .ok (.ireturn, 1) := by decide +kernel
theorem dX6_readLine_41 : decode cX6_readLine 41 = .ok (.aload_n 0, 1) := by decide +kernel
theorem dX6_readLine_42 : decode cX6_readLine 42 = .ok (.invokevirtual 46, 3) := by decide +kernel
theorem dX6_readLine_45 : decode cX6_readLine 45 = .ok (.istore_n 1, 1) := by decide +kernel
theorem dX6_readLine_46 : decode cX6_readLine 46 = .ok (.iload_n 1, 1) := by decide +kernel
theorem dX6_readLine_47 : decode cX6_readLine 47 = .ok (.bipush 99, 2) := by decide +kernel
theorem dX6_readLine_49 : decode cX6_readLine 49 = .ok (.if_icmp .le 21, 3) := by decide +kernel
theorem dX6_readLine_52 : decode cX6_readLine 52 = .ok (.aload_n 0, 1) := by decide +kernel
theorem dX6_readLine_53 : decode cX6_readLine 53 = .ok (.iload_n 1, 1) := by decide +kernel
theorem dX6_readLine_54 : decode cX6_readLine 54 = .ok (.sipush 9999, 3) := by decide +kernel
theorem dX6_readLine_57 : decode cX6_readLine 57 = .ok (.if_icmp .gt 7, 3) := by decide +kernel
theorem dX6_readLine_60 : decode cX6_readLine 60 = .ok (.iconst 4, 1) := by decide +kernel
theorem dX6_readLine_61 : decode cX6_readLine 61 = .ok (.goto 4, 3) := by decide +kernel
theorem dX6_readLine_64 : decode cX6_readLine 64 = .ok (.iconst 1, 1) := by decide +kernel
theorem dX6_readLine_65 : decode cX6_readLine 65 = .ok (.putfield 43, 3) := by decide +kernel
theorem dX6_readLine_68 : decode cX6_readLine 68 = .ok (.iconst 0, 1) := by decide +kernel
theorem dX6_readLine_69 : decode cX6_readLine 69 = .ok (.ireturn, 1) := by decide +kernel
theorem dX6_readLine_70 : decode cX6_readLine 70 = .ok (.aload_n 0, 1) := by decide +kernel
theorem dX6_readLine_71 : decode cX6_readLine 71 = .ok (.dup, 1) := by decide +kernel
theorem dX6_readLine_72 : decode cX6_readLine 72 = .ok (.getfield 40, 3) := by decide +kernel
theorem dX6_readLine_75 : decode cX6_readLine 75 = .ok (.iconst 1, 1) := by decide +kernel
theorem dX6_readLine_76 : decode cX6_readLine 76 = .ok (.iadd, 1) := by decide +kernel
theorem dX6_readLine_77 : decode cX6_readLine 77 = .ok (.putfield 40, 3) := by decide +kernel
theorem dX6_readLine_80 : decode cX6_readLine 80 = .ok (.aload_n 0, 1) := by decide +kernel
theorem dX6_readLine_81 : decode cX6_readLine 81 = .ok (.sipush 10012, 3) := by decide +kernel
theorem dX6_readLine_84 : decode cX6_readLine 84 = .ok (.invokevirtual 65, 3) := by decide +kernel
theorem dX6_readLine_87 : decode cX6_readLine 87 = .ok (.ifCond .eq 21, 3) := by decide +kernel
theorem dX6_readLine_90 : decode cX6_readLine 90 = .ok (.aload_n 0, 1) := by decide +kernel
theorem dX6_readLine_91 : decode cX6_readLine 91 = .ok (.iconst 0, 1) := by decide +kernel
theorem dX6_readLine_92 : decode cX6_readLine 92 = .ok (.invokevirtual 69, 3) := by decide +kernel
theorem dX6_readLine_95 : decode cX6_readLine 95 = .ok (.ifCond .eq 13, 3) := by decide +kernel
theorem dX6_readLine_98 : decode cX6_readLine 98 = .ok (.aload_n 0, 1) := by decide +kernel
theorem dX6_readLine_99 : decode cX6_readLine 99 = .ok (.sipush 10015, 3) := by decide +kernel
theorem dX6_readLine_102 : decode cX6_readLine 102 = .ok (.invokevirtual 65, 3) := by decide +kernel
theorem dX6_readLine_105 : decode cX6_readLine 105 = .ok (.ifCond .ne 5, 3) := by decide +kernel
theorem dX6_readLine_108 : decode cX6_readLine 108 = .ok (.iconst 0, 1) := by decide +kernel
theorem dX6_readLine_109 : decode cX6_readLine 109 = .ok (.ireturn, 1) := by decide +kernel
theorem dX6_readLine_110 : decode cX6_readLine 110 = .ok (.aload_n 0, 1) := by decide +kernel
theorem dX6_readLine_111 : decode cX6_readLine 111 = .ok (.getfield 28, 3) := by decide +kernel
theorem dX6_readLine_114 : decode cX6_readLine 114 = .ok (.iload_n 1, 1) := by decide +kernel
theorem dX6_readLine_115 : decode cX6_readLine 115 = .ok (.invokevirtual 72, 3) := by decide +kernel
theorem dX6_readLine_118 : decode cX6_readLine 118 = .ok (.iconst 1, 1) := by decide +kernel
theorem dX6_readLine_119 : decode cX6_readLine 119 = .ok (.ireturn, 1) := by decide +kernel
set_option maxRecDepth 20000 in
theorem ggX6_readCondition_X6_readTest : GoodIn wsX6_readCondition wsX6_readTest := goodIn_r _ [33, 10, 1, 34, 35, 36, 5, 22, 23, 24, 25, 11, 12, 13, 14, 15, 16, 17, 18, 19, 0, 2, 3, 4, 6, 7, 8, 9, 20, 21, 26, 27, 28, 29, 30, 31, 32, 37, 38, 39, 40, 41, 42, 43, 44, 45, 46, 47, 48, 49, 50] (by decide +kernel) (by decide +kernel)
set_option maxRecDepth 20000 in
theorem gX6_readCondition_X6_readTest : GoodIn wsX6_readCondition (wsV RX6 76 RX6 yX6_readTest wsX6_readTest) := goodIn_app (goodIn_of _ (by decide +kernel)) ggX6_readCondition_X6_readTest
set_option maxRecDepth 20000 in
theorem ggX6_readCondition_X6_take : GoodIn wsX6_readCondition wsX6_take := goodIn_r _ [9, 10, 11, 12, 37, 38, 39, 40, 41, 42, 43, 44] (by decide +kernel) (by decide +kernel)
set_option maxRecDepth 20000 in
theorem gX6_readCondition_X6_take : GoodIn wsX6_readCondition (wsV RX6 65 RX6 yX6_take wsX6_take) := goodIn_app (goodIn_of _ (by decide +kernel)) ggX6_readCondition_X6_take
set_option maxRecDepth 20000 in
theorem ggX6_readCondition_X5_addCode : GoodIn wsX6_readCondition wsX5_addCode := goodIn_r _ [17, 18, 19, 45, 46, 47, 48, 49, 50] (by decide +kernel) (by decide +kernel)
set_option maxRecDepth 20000 in
theorem gX6_readCondition_X5_addCode : GoodIn wsX6_readCondition (wsV RX6 79 RX5 yX5_addCode wsX5_addCode) := goodIn_app (goodIn_of _ (by decide +kernel)) ggX6_readCondition_X5_addCode
theorem dX6_readCondition_0 : decode cX6_readCondition 0 = .ok (.aload_n 0, 1) := by decide +kernel
theorem dX6_readCondition_1 : decode cX6_readCondition 1 = .ok (.iload_n 1, 1) := by decide +kernel
theorem dX6_readCondition_2 : decode cX6_readCondition 2 = .ok (.invokevirtual 76, 3) := by decide +kernel
theorem dX6_readCondition_5 : decode cX6_readCondition 5 = .ok (.ifCond .ne 5, 3) := by decide +kernel
theorem dX6_readCondition_8 : decode cX6_readCondition 8 = .ok (.iconst 0, 1) := by decide +kernel
theorem dX6_readCondition_9 : decode cX6_readCondition 9 = .ok (.ireturn, 1) := by decide +kernel
theorem dX6_readCondition_10 : decode cX6_readCondition 10 = .ok (.iconst 0, 1) := by decide +kernel
theorem dX6_readCondition_11 : decode cX6_readCondition 11 = .ok (.istore_n 2, 1) := by decide +kernel
theorem dX6_readCondition_12 : decode cX6_readCondition 12 = .ok (.iload_n 2, 1) := by decide +kernel
theorem dX6_readCondition_13 : decode cX6_readCondition 13 = .ok (.sipush 601, 3) := by decide +kernel
theorem dX6_readCondition_16 : decode cX6_readCondition 16 = .ok (.if_icmp .ge 39, 3) := by decide +kernel
theorem dX6_readCondition_19 : decode cX6_readCondition 19 = .ok (.aload_n 0, 1) := by decide +kernel
theorem dX6_readCondition_20 : decode cX6_readCondition 20 = .ok (.sipush 10010, 3) := by decide +kernel
theorem dX6_readCondition_23 : decode cX6_readCondition 23 = .ok (.invokevirtual 65, 3) := by decide +kernel
theorem dX6_readCondition_26 : decode cX6_readCondition 26 = .ok (.ifCond .eq 29, 3) := by decide +kernel
theorem dX6_readCondition_29 : decode cX6_readCondition 29 = .ok (.aload_n 0, 1) := by decide +kernel
theorem dX6_readCondition_30 : decode cX6_readCondition 30 = .ok (.iload_n 1, 1) := by decide +kernel
theorem dX6_readCondition_31 : decode cX6_readCondition 31 = .ok (.invokevirtual 76, 3) := by decide +kernel
theorem dX6_readCondition_34 : decode cX6_readCondition 34 = .ok (.ifCond .ne 5, 3) := by decide +kernel
theorem dX6_readCondition_37 : decode cX6_readCondition 37 = .ok (.iconst 0, 1) := by decide +kernel
theorem dX6_readCondition_38 : decode cX6_readCondition 38 = .ok (.ireturn, 1) := by decide +kernel
theorem dX6_readCondition_39 : decode cX6_readCondition 39 = .ok (.aload_n 0, 1) := by decide +kernel
theorem dX6_readCondition_40 : decode cX6_readCondition 40 = .ok (.getfield 28, 3) := by decide +kernel
theorem dX6_readCondition_43 : decode cX6_readCondition 43 = .ok (.sipush 10010, 3) := by decide +kernel
theorem dX6_readCondition_46 : decode cX6_readCondition 46 = .ok (.invokevirtual 79, 3) := by decide +kernel
theorem dX6_readCondition_49 : decode cX6_readCondition 49 = .ok (.iinc 2 1, 3) := by decide +kernel
theorem dX6_readCondition_52 : decode cX6_readCondition 52 = .ok (.goto (-40), 3) := by decide +kernel
theorem dX6_readCondition_55 : decode cX6_readCondition 55 = .ok (.iconst 1, 1) := by decide +kernel
theorem dX6_readCondition_56 : decode cX6_readCondition 56 = .ok (.ireturn, 1) := by decide +kernel
set_option maxRecDepth 20000 in
theorem ggX6_readTest_X6_readSum : GoodIn wsX6_readTest wsX6_readSum := goodIn_r _ [33, 1, 2, 34, 35, 36, 6, 7, 8, 9, 10, 11, 12, 13, 14, 15, 16, 17, 18, 19, 20, 21, 22, 23, 24, 25, 26, 27, 28, 29, 30, 31, 32, 0, 3, 4, 5, 37, 38, 39, 40, 41, 42, 43, 44, 45, 46, 47, 48, 49, 50] (by decide +kernel) (by decide +kernel)
set_option maxRecDepth 20000 in
theorem gX6_readTest_X6_readSum : GoodIn wsX6_readTest (wsV RX6 82 RX6 yX6_readSum wsX6_readSum) := goodIn_app (goodIn_of _ (by decide +kernel)) ggX6_readTest_X6_readSum
set_option maxRecDepth 20000 in
theorem ggX6_readTest_X6_peek : GoodIn wsX6_readTest wsX6_peek := goodIn_r _ [10, 1, 11, 12, 37, 38, 39, 40, 41, 42, 43, 44] (by decide +kernel) (by decide +kernel)
set_option maxRecDepth 20000 in
theorem gX6_readTest_X6_peek : GoodIn wsX6_readTest (wsV RX6 46 RX6 yX6_peek wsX6_peek) := goodIn_app (goodIn_of _ (by decide +kernel)) ggX6_readTest_X6_peek
set_option maxRecDepth 20000 in
theorem ggX6_readTest_X5_addCode : GoodIn wsX6_readTest wsX5_addCode := goodIn_r _ [17, 18, 19, 45, 46, 47, 48, 49, 50] (by decide +kernel) (by decide +kernel)
set_option maxRecDepth 20000 in
theorem gX6_readTest_X5_addCode : GoodIn wsX6_readTest (wsV RX6 79 RX5 yX5_addCode wsX5_addCode) := goodIn_app (goodIn_of _ (by decide +kernel)) ggX6_readTest_X5_addCode
theorem dX6_readTest_0 : decode cX6_readTest 0 = .ok (.aload_n 0, 1) := by decide +kernel
theorem dX6_readTest_1 : decode cX6_readTest 1 = .ok (.iload_n 1, 1) := by decide +kernel
theorem dX6_readTest_2 : decode cX6_readTest 2 = .ok (.invokevirtual 82, 3) := by decide +kernel
theorem dX6_readTest_5 : decode cX6_readTest 5 = .ok (.ifCond .ne 5, 3) := by decide +kernel
theorem dX6_readTest_8 : decode cX6_readTest 8 = .ok (.iconst 0, 1) := by decide +kernel
theorem dX6_readTest_9 : decode cX6_readTest 9 = .ok (.ireturn, 1) := by decide +kernel
theorem dX6_readTest_10 : decode cX6_readTest 10 = .ok (.aload_n 0, 1) := by decide +kernel
theorem dX6_readTest_11 : decode cX6_readTest 11 = .ok (.invokevirtual 46, 3) := by decide +kernel
theorem dX6_readTest_14 : decode cX6_readTest 14 = .ok (.istore_n 2, 1) := by decide +kernel
theorem dX6_readTest_15 : decode cX6_readTest 15 = .ok (.iload_n 2, 1) := by decide +kernel
theorem dX6_readTest_16 : decode cX6_readTest 16 = .ok (.sipush 10008, 3) := by decide +kernel
theorem dX6_readTest_19 : decode cX6_readTest 19 = .ok (.if_icmp .eq 12, 3) := by decide +kernel
theorem dX6_readTest_22 : decode cX6_readTest 22 = .ok (.iload_n 2, 1) := by decide +kernel
theorem dX6_readTest_23 : decode cX6_readTest 23 = .ok (.sipush 10009, 3) := by decide +kernel
theorem dX6_readTest_26 : decode cX6_readTest 26 = .ok (.if_icmp .eq 5, 3) := by decide +kernel
theorem dX6_readTest_29 : decode cX6_readTest 29 = .ok (.iconst 1, 1) := by decide +kernel
theorem dX6_readTest_30 : decode cX6_readTest 30 = .ok (.ireturn, 1) := by decide +kernel
theorem dX6_readTest_31 : decode cX6_readTest 31 = .ok (.aload_n 0, 1) := by decide +kernel
theorem dX6_readTest_32 : decode cX6_readTest 32 = .ok (.dup, 1) := by decide +kernel
theorem dX6_readTest_33 : decode cX6_readTest 33 = .ok (.getfield 40, 3) := by decide +kernel
theorem dX6_readTest_36 : decode cX6_readTest 36 = .ok (.iconst 1, 1) := by decide +kernel
theorem dX6_readTest_37 : decode cX6_readTest 37 = .ok (.iadd, 1) := by decide +kernel
theorem dX6_readTest_38 : decode cX6_readTest 38 = .ok (.putfield 40, 3) := by decide +kernel
theorem dX6_readTest_41 : decode cX6_readTest 41 = .ok (.aload_n 0, 1) := by decide +kernel
theorem dX6_readTest_42 : decode cX6_readTest 42 = .ok (.iload_n 1, 1) := by decide +kernel
theorem dX6_readTest_43 : decode cX6_readTest 43 = .ok (.invokevirtual 82, 3) := by decide +kernel
theorem dX6_readTest_46 : decode cX6_readTest 46 = .ok (.ifCond .ne 5, 3) := by decide +kernel
theorem dX6_readTest_49 : decode cX6_readTest 49 = .ok (.iconst 0, 1) := by decide +kernel
theorem dX6_readTest_50 : decode cX6_readTest 50 = .ok (.ireturn, 1) := by decide +kernel
theorem dX6_readTest_51 : decode cX6_readTest 51 = .ok (.aload_n 0, 1) := by decide +kernel
theorem dX6_readTest_52 : decode cX6_readTest 52 = .ok (.getfield 28, 3) := by decide +kernel
theorem dX6_readTest_55 : decode cX6_readTest 55 = .ok (.iload_n 2, 1) := by decide +kernel
theorem dX6_readTest_56 : decode cX6_readTest 56 = .ok (.invokevirtual 79, 3) := by decide +kernel
theorem dX6_readTest_59 : decode cX6_readTest 59 = .ok (.iconst 1, 1) := by decide +kernel
theorem dX6_readTest_60 : decode cX6_readTest 60 = .ok (.ireturn, 1) := by decide +kernel
set_option maxRecDepth 20000 in
theorem ggX6_readSum_X6_readPart : GoodIn wsX6_readSum wsX6_readPart := goodIn_r _ [28, 29, 1, 2, 7, 8, 9, 6, 10, 11, 12, 30, 31, 32, 24, 25, 26, 27, 13, 14, 15, 16, 17, 18, 19, 20, 21, 22, 23, 0, 3, 4, 5, 33, 34, 35, 36, 37, 38, 39, 40, 41, 42, 43, 44, 45, 46, 47, 48, 49, 50] (by decide +kernel) (by decide +kernel)
set_option maxRecDepth 20000 in
theorem gX6_readSum_X6_readPart : GoodIn wsX6_readSum (wsV RX6 85 RX6 yX6_readPart wsX6_readPart) := goodIn_app (goodIn_of _ (by decide +kernel)) ggX6_readSum_X6_readPart
set_option maxRecDepth 20000 in
theorem ggX6_readSum_X6_peek : GoodIn wsX6_readSum wsX6_peek := goodIn_r _ [10, 1, 11, 12, 37, 38, 39, 40, 41, 42, 43, 44] (by decide +kernel) (by decide +kernel)
set_option maxRecDepth 20000 in
theorem gX6_readSum_X6_peek : GoodIn wsX6_readSum (wsV RX6 46 RX6 yX6_peek wsX6_peek) := goodIn_app (goodIn_of _ (by decide +kernel)) ggX6_readSum_X6_peek
set_option maxRecDepth 20000 in
theorem ggX6_readSum_X5_addCode : GoodIn wsX6_readSum wsX5_addCode := goodIn_r _ [17, 18, 19, 45, 46, 47, 48, 49, 50] (by decide +kernel) (by decide +kernel)
set_option maxRecDepth 20000 in
theorem gX6_readSum_X5_addCode : GoodIn wsX6_readSum (wsV RX6 79 RX5 yX5_addCode wsX5_addCode) := goodIn_app (goodIn_of _ (by decide +kernel)) ggX6_readSum_X5_addCode
theorem dX6_readSum_0 : decode cX6_readSum 0 = .ok (.aload_n 0, 1) := by decide +kernel
theorem dX6_readSum_1 : decode cX6_readSum 1 = .ok (.iload_n 1, 1) := by decide +kernel
theorem dX6_readSum_2 : decode cX6_readSum 2 = .ok (.invokevirtual 85, 3) := by decide +kernel
theorem dX6_readSum_5 : decode cX6_readSum 5 = .ok (.ifCond .ne 5, 3) := by decide +kernel
theorem dX6_readSum_8 : decode cX6_readSum 8 = .ok (.iconst 0, 1) := by decide +kernel
theorem dX6_readSum_9 : decode cX6_readSum 9 = .ok (.ireturn, 1) := by decide +kernel
theorem dX6_readSum_10 : decode cX6_readSum 10 = .ok (.iconst 0, 1) := by decide +kernel
theorem dX6_readSum_11 : decode cX6_readSum 11 = .ok (.istore_n 2, 1) := by decide +kernel
theorem dX6_readSum_12 : decode cX6_readSum 12 = .ok (.iload_n 2, 1) := by decide +kernel
theorem dX6_readSum_13 : decode cX6_readSum 13 = .ok (.sipush 601, 3) := by decide +kernel
theorem dX6_readSum_16 : decode cX6_readSum 16 = .ok (.if_icmp .ge 58, 3) := by decide +kernel
theorem dX6_readSum_19 : decode cX6_readSum 19 = .ok (.aload_n 0, 1) := by decide +kernel
theorem dX6_readSum_20 : decode cX6_readSum 20 = .ok (.invokevirtual 46, 3) := by decide +kernel
theorem dX6_readSum_23 : decode cX6_readSum 23 = .ok (.istore_n 3, 1) := by decide +kernel
theorem dX6_readSum_24 : decode cX6_readSum 24 = .ok (.iload_n 3, 1) := by decide +kernel
theorem dX6_readSum_25 : decode cX6_readSum 25 = .ok (.sipush 10006, 3) := by decide +kernel
theorem dX6_readSum_28 : decode cX6_readSum 28 = .ok (.if_icmp .eq 12, 3) := by decide +kernel
theorem dX6_readSum_31 : decode cX6_readSum 31 = .ok (.iload_n 3, 1) := by decide +kernel
theorem dX6_readSum_32 : decode cX6_readSum 32 = .ok (.sipush 10007, 3) := by decide +kernel
theorem dX6_readSum_35 : decode cX6_readSum 35 = .ok (.if_icmp .eq 5, 3) := by decide +kernel
theorem dX6_readSum_38 : decode cX6_readSum 38 = .ok (.iconst 1, 1) := by decide +kernel
theorem dX6_readSum_39 : decode cX6_readSum 39 = .ok (.ireturn, 1) := by decide +kernel
theorem dX6_readSum_40 : decode cX6_readSum 40 = .ok (.aload_n 0, 1) := by decide +kernel
theorem dX6_readSum_41 : decode cX6_readSum 41 = .ok (.dup, 1) := by decide +kernel
theorem dX6_readSum_42 : decode cX6_readSum 42 = .ok (.getfield 40, 3) := by decide +kernel
theorem dX6_readSum_45 : decode cX6_readSum 45 = .ok (.iconst 1, 1) := by decide +kernel
theorem dX6_readSum_46 : decode cX6_readSum 46 = .ok (.iadd, 1) := by decide +kernel
theorem dX6_readSum_47 : decode cX6_readSum 47 = .ok (.putfield 40, 3) := by decide +kernel
theorem dX6_readSum_50 : decode cX6_readSum 50 = .ok (.aload_n 0, 1) := by decide +kernel
theorem dX6_readSum_51 : decode cX6_readSum 51 = .ok (.iload_n 1, 1) := by decide +kernel
theorem dX6_readSum_52 : decode cX6_readSum 52 = .ok (.invokevirtual 85, 3) := by decide +kernel
theorem dX6_readSum_55 : decode cX6_readSum 55 = .ok (.ifCond .ne 5, 3) := by decide +kernel
theorem dX6_readSum_58 : decode cX6_readSum 58 = .ok (.iconst 0, 1) := by decide +kernel
theorem dX6_readSum_59 : decode cX6_readSum 59 = .ok (.ireturn, 1) := by decide +kernel
theorem dX6_readSum_60 : decode cX6_readSum 60 = .ok (.aload_n 0, 1) := by decide +kernel
theorem dX6_readSum_61 : decode cX6_readSum 61 = .ok (.getfield 28, 3) := by decide +kernel
theorem dX6_readSum_64 : decode cX6_readSum 64 = .ok (.iload_n 3, 1) := by decide +kernel
theorem dX6_readSum_65 : decode cX6_readSum 65 = .ok (.invokevirtual 79, 3) := by decide +kernel
theorem dX6_readSum_68 : decode cX6_readSum 68 = .ok (.iinc 2 1, 3) := by decide +kernel
theorem dX6_readSum_71 : decode cX6_readSum 71 = .ok (.goto (-59), 3) := by decide +kernel
theorem dX6_readSum_74 : decode cX6_readSum 74 = .ok (.iconst 1, 1) := by decide +kernel
theorem dX6_readSum_75 : decode cX6_readSum 75 = .ok (.ireturn, 1) := by decide +kernel
set_option maxRecDepth 20000 in
theorem ggX6_readPart_X6_peek : GoodIn wsX6_readPart wsX6_peek := goodIn_r _ [8, 2, 9, 10, 37, 38, 39, 40, 41, 42, 43, 44] (by decide +kernel) (by decide +kernel)
set_option maxRecDepth 20000 in
theorem gX6_readPart_X6_peek : GoodIn wsX6_readPart (wsV RX6 46 RX6 yX6_peek wsX6_peek) := goodIn_app (goodIn_of _ (by decide +kernel)) ggX6_readPart_X6_peek
set_option maxRecDepth 20000 in
theorem ggX6_readPart_X6_readCondition : GoodIn wsX6_readPart wsX6_readCondition := goodIn_r _ [25, 3, 26, 27, 28, 7, 14, 15, 16, 17, 2, 9, 10, 18, 19, 20, 21, 22, 23, 24, 0, 1, 4, 5, 6, 8, 11, 12, 13, 29, 30, 31, 32, 33, 34, 35, 36, 37, 38, 39, 40, 41, 42, 43, 44, 45, 46, 47, 48, 49, 50] (by decide +kernel) (by decide +kernel)
set_option maxRecDepth 20000 in
theorem gX6_readPart_X6_readCondition : GoodIn wsX6_readPart (wsV RX6 69 RX6 yX6_readCondition wsX6_readCondition) := goodIn_app (goodIn_of _ (by decide +kernel)) ggX6_readPart_X6_readCondition
set_option maxRecDepth 20000 in
theorem ggX6_readPart_X6_take : GoodIn wsX6_readPart wsX6_take := goodIn_r _ [17, 2, 9, 10, 37, 38, 39, 40, 41, 42, 43, 44] (by decide +kernel) (by decide +kernel)
set_option maxRecDepth 20000 in
theorem gX6_readPart_X6_take : GoodIn wsX6_readPart (wsV RX6 65 RX6 yX6_take wsX6_take) := goodIn_app (goodIn_of _ (by decide +kernel)) ggX6_readPart_X6_take
set_option maxRecDepth 20000 in
theorem ggX6_readPart_X5_addCode : GoodIn wsX6_readPart wsX5_addCode := goodIn_r _ [22, 23, 24, 45, 46, 47, 48, 49, 50] (by decide +kernel) (by decide +kernel)
set_option maxRecDepth 20000 in
theorem gX6_readPart_X5_addCode : GoodIn wsX6_readPart (wsV RX6 79 RX5 yX5_addCode wsX5_addCode) := goodIn_app (goodIn_of _ (by decide +kernel)) ggX6_readPart_X5_addCode
theorem dX6_readPart_0 : decode cX6_readPart 0 = .ok (.aload_n 0, 1) := by decide +kernel
theorem dX6_readPart_1 : decode cX6_readPart 1 = .ok (.invokevirtual 46, 3) := by decide +kernel
theorem dX6_readPart_4 : decode cX6_readPart 4 = .ok (.istore_n 2, 1) := by decide +kernel
theorem dX6_readPart_5 : decode cX6_readPart 5 = .ok (.iload_n 2, 1) := by decide +kernel
theorem dX6_readPart_6 : decode cX6_readPart 6 = .ok (.sipush 10005, 3) := by decide +kernel
theorem dX6_readPart_9 : decode cX6_readPart 9 = .ok (.if_icmp .le 12, 3) := by decide +kernel
theorem dX6_readPart_12 : decode cX6_readPart 12 = .ok (.iload_n 2, 1) := by decide +kernel
theorem dX6_readPart_13 : decode cX6_readPart 13 = .ok (.sipush 10013, 3) := by decide +kernel
theorem dX6_readPart_16 : decode cX6_readPart 16 = .ok (.if_icmp .eq 5, 3) := by decide +kernel
theorem dX6_readPart_19 : decode cX6_readPart 19 = .ok (.iconst 0, 1) := by decide +kernel
theorem dX6_readPart_20 : decode cX6_readPart 20 = .ok (.ireturn, 1) := by decide +kernel
theorem dX6_readPart_21 : decode cX6_readPart 21 = .ok (.iload_n 1, 1) := by decide +kernel
theorem dX6_readPart_22 : decode cX6_readPart 22 = .ok (.iconst 5, 1) := by decide +kernel
theorem dX6_readPart_23 : decode cX6_readPart 23 = .ok (.if_icmp .lt 10, 3) := by decide +kernel
theorem dX6_readPart_26 : decode cX6_readPart 26 = .ok (.aload_n 0, 1) := by decide +kernel
theorem dX6_readPart_27 : decode cX6_readPart 27 = .ok (.iconst 5, 1) := by decide +kernel
theorem dX6_readPart_28 : decode cX6_readPart 28 = .ok (.putfield 43, 3) := by decide +kernel
theorem dX6_readPart_31 : decode cX6_readPart 31 = .ok (.iconst 0, 1) := by decide +kernel
theorem dX6_readPart_32 : decode cX6_readPart 32 = .ok (.ireturn, 1) := by decide +kernel
theorem dX6_readPart_33 : decode cX6_readPart 33 = .ok (.aload_n 0, 1) := by decide +kernel
theorem dX6_readPart_34 : decode cX6_readPart 34 = .ok (.dup, 1) := by decide +kernel
theorem dX6_readPart_35 : decode cX6_readPart 35 = .ok (.getfield 40, 3) := by decide +kernel
theorem dX6_readPart_38 : decode cX6_readPart 38 = .ok (.iconst 1, 1) := by decide +kernel
theorem dX6_readPart_39 : decode cX6_readPart 39 = .ok (.iadd, 1) := by decide +kernel
theorem dX6_readPart_40 : decode cX6_readPart 40 = .ok (.putfield 40, 3) := by decide +kernel
theorem dX6_readPart_43 : decode cX6_readPart 43 = .ok (.iload_n 2, 1) := by decide +kernel
theorem dX6_readPart_44 : decode cX6_readPart 44 = .ok (.sipush 10013, 3) := by decide +kernel
theorem dX6_readPart_47 : decode cX6_readPart 47 = .ok (.if_icmp .ne 29, 3) := by decide +kernel
theorem dX6_readPart_50 : decode cX6_readPart 50 = .ok (.aload_n 0, 1) := by decide +kernel
theorem dX6_readPart_51 : decode cX6_readPart 51 = .ok (.iload_n 1, 1) := by decide +kernel
theorem dX6_readPart_52 : decode cX6_readPart 52 = .ok (.iconst 1, 1) := by decide +kernel
theorem dX6_readPart_53 : decode cX6_readPart 53 = .ok (.iadd, 1) := by decide +kernel
theorem dX6_readPart_54 : decode cX6_readPart 54 = .ok (.invokevirtual 69, 3) := by decide +kernel
theorem dX6_readPart_57 : decode cX6_readPart 57 = .ok (.ifCond .eq 17, 3) := by decide +kernel
theorem dX6_readPart_60 : decode cX6_readPart 60 = .ok (.aload_n 0, 1) := by decide +kernel
theorem dX6_readPart_61 : decode cX6_readPart 61 = .ok (.sipush 10014, 3) := by decide +kernel
theorem dX6_readPart_64 : decode cX6_readPart 64 = .ok (.invokevirtual 65, 3) := by decide +kernel
theorem dX6_readPart_67 : decode cX6_readPart 67 = .ok (.ifCond .eq 7, 3) := by decide +kernel
theorem dX6_readPart_70 : decode cX6_readPart 70 = .ok (.iconst 1, 1) := by decide +kernel
theorem dX6_readPart_71 : decode cX6_readPart 71 = .ok (.goto 4, 3) := by decide +kernel
theorem dX6_readPart_74 : decode cX6_readPart 74 = .ok (.iconst 0, 1) := by decide +kernel
theorem dX6_readPart_75 : decode cX6_readPart 75 = .ok (.ireturn, 1) := by decide +kernel
theorem dX6_readPart_76 : decode cX6_readPart 76 = .ok (.aload_n 0, 1) := by decide +kernel
theorem dX6_readPart_77 : decode cX6_readPart 77 = .ok (.getfield 28, 3) := by decide +kernel
theorem dX6_readPart_80 : decode cX6_readPart 80 = .ok (.iload_n 2, 1) := by decide +kernel
theorem dX6_readPart_81 : decode cX6_readPart 81 = .ok (.invokevirtual 79, 3) := by decide +kernel
theorem dX6_readPart_84 : decode cX6_readPart 84 = .ok (.iconst 1, 1) := by decide +kernel
theorem dX6_readPart_85 : decode cX6_readPart 85 = .ok (.ireturn, 1) := by decide +kernel
set_option maxRecDepth 20000 in
theorem ggX6_scan_X6_isBlank : GoodIn wsX6_scan wsX6_isBlank := goodIn_r _ [7] (by decide +kernel) (by decide +kernel)
set_option maxRecDepth 20000 in
theorem gX6_scan_X6_isBlank : GoodIn wsX6_scan (va_wsS RX6 88 yX6_isBlank wsX6_isBlank) := goodIn_app (goodIn_of _ (by decide +kernel)) ggX6_scan_X6_isBlank
set_option maxRecDepth 20000 in
theorem ggX6_scan_X6_endOf : GoodIn wsX6_scan wsX6_endOf := goodIn_r _ [11, 3, 2, 12, 13, 6, 14, 15, 16, 17, 92, 93, 94, 95, 96, 97, 98, 99] (by decide +kernel) (by decide +kernel)
set_option maxRecDepth 20000 in
theorem gX6_scan_X6_endOf : GoodIn wsX6_scan (wsV RX6 92 RX6 yX6_endOf wsX6_endOf) := goodIn_app (goodIn_of _ (by decide +kernel)) ggX6_scan_X6_endOf
set_option maxRecDepth 20000 in
theorem ggX6_scan_X6_tokenOf : GoodIn wsX6_scan wsX6_tokenOf := goodIn_r _ [21, 3, 12, 13, 6, 14, 22, 23, 24, 25, 26, 27, 28, 29, 30, 31, 32, 33, 34, 35, 36, 37, 38, 39, 40, 41, 42, 43, 44, 45, 46, 47, 48, 49, 50, 51, 52, 53, 54, 55, 56, 57, 58, 59, 60, 61, 62, 63, 64, 65, 66, 67, 68, 69, 70, 71, 72, 73, 74, 75, 76, 77, 78, 15, 16, 17, 79, 80, 81, 82, 83, 84, 85, 92, 93, 94, 95, 96, 97, 98, 99] (by decide +kernel) (by decide +kernel)
set_option maxRecDepth 20000 in
theorem gX6_scan_X6_tokenOf : GoodIn wsX6_scan (wsV RX6 96 RX6 yX6_tokenOf wsX6_tokenOf) := goodIn_app (goodIn_of _ (by decide +kernel)) ggX6_scan_X6_tokenOf
set_option maxRecDepth 20000 in
theorem ggX6_scan_X6_addToken : GoodIn wsX6_scan wsX6_addToken := goodIn_r _ [89, 1, 90, 91, 92, 93, 94, 95, 96, 97, 98, 99] (by decide +kernel) (by decide +kernel)
set_option maxRecDepth 20000 in
theorem gX6_scan_X6_addToken : GoodIn wsX6_scan (wsV RX6 100 RX6 yX6_addToken wsX6_addToken) := goodIn_app (goodIn_of _ (by decide +kernel)) ggX6_scan_X6_addToken
theorem dX6_scan_0 : decode cX6_scan 0 = .ok (.aload_n 0, 1) := by decide +kernel
theorem dX6_scan_1 : decode cX6_scan 1 = .ok (.iconst 0, 1) := by decide +kernel
theorem dX6_scan_2 : decode cX6_scan 2 = .ok (.putfield 59, 3) := by decide +kernel
theorem dX6_scan_5 : decode cX6_scan 5 = .ok (.iconst 0, 1) := by decide +kernel
theorem dX6_scan_6 : decode cX6_scan 6 = .ok (.istore_n 1, 1) := by decide +kernel
theorem dX6_scan_7 : decode cX6_scan 7 = .ok (.iconst 0, 1) := by decide +kernel
theorem dX6_scan_8 : decode cX6_scan 8 = .ok (.istore_n 2, 1) := by decide +kernel
theorem dX6_scan_9 : decode cX6_scan 9 = .ok (.iload_n 2, 1) := by decide +kernel
theorem dX6_scan_10 : decode cX6_scan 10 = .ok (.aload_n 0, 1) := by decide +kernel
theorem dX6_scan_11 : decode cX6_scan 11 = .ok (.getfield 27, 3) := by decide +kernel
theorem dX6_scan_14 : decode cX6_scan 14 = .ok (.if_icmp .ge 43, 3) := by decide +kernel
theorem dX6_scan_17 : decode cX6_scan 17 = .ok (.iload_n 2, 1) := by decide +kernel
theorem dX6_scan_18 : decode cX6_scan 18 = .ok (.iload_n 1, 1) := by decide +kernel
theorem dX6_scan_19 : decode cX6_scan 19 = .ok (.if_icmp .lt 32, 3) := by decide +kernel
theorem dX6_scan_22 : decode cX6_scan 22 = .ok (.aload_n 0, 1) := by decide +kernel
theorem dX6_scan_23 : decode cX6_scan 23 = .ok (.getfield 22, 3) := by decide +kernel
theorem dX6_scan_26 : decode cX6_scan 26 = .ok (.iload_n 2, 1) := by decide +kernel
theorem dX6_scan_27 : decode cX6_scan 27 = .ok (.caload, 1) := by decide +kernel
theorem dX6_scan_28 : decode cX6_scan 28 = .ok (.invokestatic 88, 3) := by decide +kernel
theorem dX6_scan_31 : decode cX6_scan 31 = .ok (.ifCond .ne 20, 3) := by decide +kernel
theorem dX6_scan_34 : decode cX6_scan 34 = .ok (.aload_n 0, 1) := by decide +kernel
theorem dX6_scan_35 : decode cX6_scan 35 = .ok (.iload_n 2, 1) := by decide +kernel
theorem dX6_scan_36 : decode cX6_scan 36 = .ok (.invokevirtual 92, 3) := by decide +kernel
end
section
theorem dX6_scan_39 : decode cX6_scan 39 = .ok (.istore_n 1, 1) := by decide +kernel
theorem dX6_scan_40 : decode cX6_scan 40 = .ok (.aload_n 0, 1) := by decide +kernel
theorem dX6_scan_41 : decode cX6_scan 41 = .ok (.aload_n 0, 1) := by decide +kernel
theorem dX6_scan_42 : decode cX6_scan 42 = .ok (.iload_n 2, 1) := by decide +kernel
theorem dX6_scan_43 : decode cX6_scan 43 = .ok (.iload_n 1, 1) := by decide +kernel
theorem dX6_scan_44 : decode cX6_scan 44 = .ok (.invokevirtual 96, 3) := by decide +kernel
theorem dX6_scan_47 : decode cX6_scan 47 = .ok (.iload_n 2, 1) := by decide +kernel
theorem dX6_scan_48 : decode cX6_scan 48 = .ok (.invokevirtual 100, 3) := by decide +kernel
theorem dX6_scan_51 : decode cX6_scan 51 = .ok (.iinc 2 1, 3) := by decide +kernel
theorem dX6_scan_54 : decode cX6_scan 54 = .ok (.goto (-45), 3) := by decide +kernel
theorem dX6_scan_57 : decode cX6_scan 57 = .ok (.aload_n 0, 1) := by decide +kernel
theorem dX6_scan_58 : decode cX6_scan 58 = .ok (.sipush 10016, 3) := by decide +kernel
theorem dX6_scan_61 : decode cX6_scan 61 = .ok (.aload_n 0, 1) := by decide +kernel
theorem dX6_scan_62 : decode cX6_scan 62 = .ok (.getfield 27, 3) := by decide +kernel
theorem dX6_scan_65 : decode cX6_scan 65 = .ok (.invokevirtual 100, 3) := by decide +kernel
theorem dX6_scan_68 : decode cX6_scan 68 = .ok (.return_, 1) := by decide +kernel
theorem dX6_addToken_0 : decode cX6_addToken 0 = .ok (.aload_n 0, 1) := by decide +kernel
theorem dX6_addToken_1 : decode cX6_addToken 1 = .ok (.getfield 59, 3) := by decide +kernel
theorem dX6_addToken_4 : decode cX6_addToken 4 = .ok (.sipush 601, 3) := by decide +kernel
theorem dX6_addToken_7 : decode cX6_addToken 7 = .ok (.if_icmp .ge 33, 3) := by decide +kernel
theorem dX6_addToken_10 : decode cX6_addToken 10 = .ok (.aload_n 0, 1) := by decide +kernel
theorem dX6_addToken_11 : decode cX6_addToken 11 = .ok (.getfield 11, 3) := by decide +kernel
theorem dX6_addToken_14 : decode cX6_addToken 14 = .ok (.aload_n 0, 1) := by decide +kernel
theorem dX6_addToken_15 : decode cX6_addToken 15 = .ok (.getfield 59, 3) := by decide +kernel
theorem dX6_addToken_18 : decode cX6_addToken 18 = .ok (.iload_n 1, 1) := by decide +kernel
theorem dX6_addToken_19 : decode cX6_addToken 19 = .ok (.iastore, 1) := by decide +kernel
theorem dX6_addToken_20 : decode cX6_addToken 20 = .ok (.aload_n 0, 1) := by decide +kernel
theorem dX6_addToken_21 : decode cX6_addToken 21 = .ok (.getfield 15, 3) := by decide +kernel
theorem dX6_addToken_24 : decode cX6_addToken 24 = .ok (.aload_n 0, 1) := by decide +kernel
theorem dX6_addToken_25 : decode cX6_addToken 25 = .ok (.getfield 59, 3) := by decide +kernel
theorem dX6_addToken_28 : decode cX6_addToken 28 = .ok (.iload_n 2, 1) := by decide +kernel
theorem dX6_addToken_29 : decode cX6_addToken 29 = .ok (.iastore, 1) := by decide +kernel
theorem dX6_addToken_30 : decode cX6_addToken 30 = .ok (.aload_n 0, 1) := by decide +kernel
theorem dX6_addToken_31 : decode cX6_addToken 31 = .ok (.dup, 1) := by decide +kernel
theorem dX6_addToken_32 : decode cX6_addToken 32 = .ok (.getfield 59, 3) := by decide +kernel
theorem dX6_addToken_35 : decode cX6_addToken 35 = .ok (.iconst 1, 1) := by decide +kernel
theorem dX6_addToken_36 : decode cX6_addToken 36 = .ok (.iadd, 1) := by decide +kernel
theorem dX6_addToken_37 : decode cX6_addToken 37 = .ok (.putfield 59, 3) := by decide +kernel
theorem dX6_addToken_40 : decode cX6_addToken 40 = .ok (.return_, 1) := by decide +kernel
set_option maxRecDepth 20000 in
theorem ggX6_endOf_X6_isLetter : GoodIn wsX6_endOf wsX6_isLetter := goodIn_r _ [6] (by decide +kernel) (by decide +kernel)
set_option maxRecDepth 20000 in
theorem gX6_endOf_X6_isLetter : GoodIn wsX6_endOf (va_wsS RX6 104 yX6_isLetter wsX6_isLetter) := goodIn_app (goodIn_of _ (by decide +kernel)) ggX6_endOf_X6_isLetter
set_option maxRecDepth 20000 in
theorem ggX6_endOf_X6_isDigit : GoodIn wsX6_endOf wsX6_isDigit := goodIn_r _ [9] (by decide +kernel) (by decide +kernel)
set_option maxRecDepth 20000 in
theorem gX6_endOf_X6_isDigit : GoodIn wsX6_endOf (va_wsS RX6 107 yX6_isDigit wsX6_isDigit) := goodIn_app (goodIn_of _ (by decide +kernel)) ggX6_endOf_X6_isDigit
theorem dX6_endOf_0 : decode cX6_endOf 0 = .ok (.aload_n 0, 1) := by decide +kernel
theorem dX6_endOf_1 : decode cX6_endOf 1 = .ok (.getfield 22, 3) := by decide +kernel
theorem dX6_endOf_4 : decode cX6_endOf 4 = .ok (.iload_n 1, 1) := by decide +kernel
theorem dX6_endOf_5 : decode cX6_endOf 5 = .ok (.caload, 1) := by decide +kernel
theorem dX6_endOf_6 : decode cX6_endOf 6 = .ok (.invokestatic 104, 3) := by decide +kernel
theorem dX6_endOf_9 : decode cX6_endOf 9 = .ok (.istore_n 2, 1) := by decide +kernel
theorem dX6_endOf_10 : decode cX6_endOf 10 = .ok (.aload_n 0, 1) := by decide +kernel
theorem dX6_endOf_11 : decode cX6_endOf 11 = .ok (.getfield 22, 3) := by decide +kernel
theorem dX6_endOf_14 : decode cX6_endOf 14 = .ok (.iload_n 1, 1) := by decide +kernel
theorem dX6_endOf_15 : decode cX6_endOf 15 = .ok (.caload, 1) := by decide +kernel
theorem dX6_endOf_16 : decode cX6_endOf 16 = .ok (.invokestatic 107, 3) := by decide +kernel
theorem dX6_endOf_19 : decode cX6_endOf 19 = .ok (.istore_n 3, 1) := by decide +kernel
theorem dX6_endOf_20 : decode cX6_endOf 20 = .ok (.iload_n 1, 1) := by decide +kernel
theorem dX6_endOf_21 : decode cX6_endOf 21 = .ok (.iconst 1, 1) := by decide +kernel
theorem dX6_endOf_22 : decode cX6_endOf 22 = .ok (.iadd, 1) := by decide +kernel
theorem dX6_endOf_23 : decode cX6_endOf 23 = .ok (.istore 4, 2) := by decide +kernel
theorem dX6_endOf_25 : decode cX6_endOf 25 = .ok (.iload 4, 2) := by decide +kernel
theorem dX6_endOf_27 : decode cX6_endOf 27 = .ok (.aload_n 0, 1) := by decide +kernel
theorem dX6_endOf_28 : decode cX6_endOf 28 = .ok (.getfield 27, 3) := by decide +kernel
theorem dX6_endOf_31 : decode cX6_endOf 31 = .ok (.if_icmp .ge 43, 3) := by decide +kernel
theorem dX6_endOf_34 : decode cX6_endOf 34 = .ok (.iload_n 2, 1) := by decide +kernel
theorem dX6_endOf_35 : decode cX6_endOf 35 = .ok (.ifCond .eq 16, 3) := by decide +kernel
theorem dX6_endOf_38 : decode cX6_endOf 38 = .ok (.aload_n 0, 1) := by decide +kernel
theorem dX6_endOf_39 : decode cX6_endOf 39 = .ok (.getfield 22, 3) := by decide +kernel
theorem dX6_endOf_42 : decode cX6_endOf 42 = .ok (.iload 4, 2) := by decide +kernel
theorem dX6_endOf_44 : decode cX6_endOf 44 = .ok (.caload, 1) := by decide +kernel
theorem dX6_endOf_45 : decode cX6_endOf 45 = .ok (.invokestatic 104, 3) := by decide +kernel
theorem dX6_endOf_48 : decode cX6_endOf 48 = .ok (.ifCond .ne 20, 3) := by decide +kernel
theorem dX6_endOf_51 : decode cX6_endOf 51 = .ok (.iload_n 3, 1) := by decide +kernel
theorem dX6_endOf_52 : decode cX6_endOf 52 = .ok (.ifCond .eq 22, 3) := by decide +kernel
theorem dX6_endOf_55 : decode cX6_endOf 55 = .ok (.aload_n 0, 1) := by decide +kernel
theorem dX6_endOf_56 : decode cX6_endOf 56 = .ok (.getfield 22, 3) := by decide +kernel
theorem dX6_endOf_59 : decode cX6_endOf 59 = .ok (.iload 4, 2) := by decide +kernel
theorem dX6_endOf_61 : decode cX6_endOf 61 = .ok (.caload, 1) := by decide +kernel
theorem dX6_endOf_62 : decode cX6_endOf 62 = .ok (.invokestatic 107, 3) := by decide +kernel
theorem dX6_endOf_65 : decode cX6_endOf 65 = .ok (.ifCond .eq 9, 3) := by decide +kernel
theorem dX6_endOf_68 : decode cX6_endOf 68 = .ok (.iinc 4 1, 3) := by decide +kernel
theorem dX6_endOf_71 : decode cX6_endOf 71 = .ok (.goto (-46), 3) := by decide +kernel
theorem dX6_endOf_74 : decode cX6_endOf 74 = .ok (.iload 4, 2) := by decide +kernel
theorem dX6_endOf_76 : decode cX6_endOf 76 = .ok (.ireturn, 1) := by decide +kernel
set_option maxRecDepth 20000 in
theorem ggX6_tokenOf_X6_isLetter : GoodIn wsX6_tokenOf wsX6_isLetter := goodIn_r _ [5] (by decide +kernel) (by decide +kernel)
set_option maxRecDepth 20000 in
theorem gX6_tokenOf_X6_isLetter : GoodIn wsX6_tokenOf (va_wsS RX6 104 yX6_isLetter wsX6_isLetter) := goodIn_app (goodIn_of _ (by decide +kernel)) ggX6_tokenOf_X6_isLetter
set_option maxRecDepth 20000 in
theorem ggX6_tokenOf_X6_wordOf : GoodIn wsX6_tokenOf wsX6_wordOf := goodIn_r _ [9, 10, 11, 12, 4, 13, 1, 14, 15, 16, 17, 18, 19, 20, 21, 22, 23, 24, 25, 26, 27, 28, 29, 30, 31, 32, 33, 34, 35, 36, 37, 38, 39, 40, 41, 42, 43, 44, 45, 46, 47, 48, 49, 50, 51, 52, 53, 54, 55, 56, 57, 58, 59, 60, 61, 62, 73, 74, 75, 76, 77, 78, 79, 80] (by decide +kernel) (by decide +kernel)
set_option maxRecDepth 20000 in
theorem gX6_tokenOf_X6_wordOf : GoodIn wsX6_tokenOf (wsV RX6 110 RX6 yX6_wordOf wsX6_wordOf) := goodIn_app (goodIn_of _ (by decide +kernel)) ggX6_tokenOf_X6_wordOf
set_option maxRecDepth 20000 in
theorem ggX6_tokenOf_X6_isDigit : GoodIn wsX6_tokenOf wsX6_isDigit := goodIn_r _ [65] (by decide +kernel) (by decide +kernel)
set_option maxRecDepth 20000 in
theorem gX6_tokenOf_X6_isDigit : GoodIn wsX6_tokenOf (va_wsS RX6 107 yX6_isDigit wsX6_isDigit) := goodIn_app (goodIn_of _ (by decide +kernel)) ggX6_tokenOf_X6_isDigit
set_option maxRecDepth 20000 in
theorem ggX6_tokenOf_X6_numberOf : GoodIn wsX6_tokenOf wsX6_numberOf := goodIn_r _ [69, 1, 73, 74, 75, 76, 77, 78, 79, 80] (by decide +kernel) (by decide +kernel)
set_option maxRecDepth 20000 in
theorem gX6_tokenOf_X6_numberOf : GoodIn wsX6_tokenOf (wsV RX6 113 RX6 yX6_numberOf wsX6_numberOf) := goodIn_app (goodIn_of _ (by decide +kernel)) ggX6_tokenOf_X6_numberOf
set_option maxRecDepth 20000 in
theorem ggX6_tokenOf_X6_signOf : GoodIn wsX6_tokenOf wsX6_signOf := goodIn_r _ [72] (by decide +kernel) (by decide +kernel)
set_option maxRecDepth 20000 in
theorem gX6_tokenOf_X6_signOf : GoodIn wsX6_tokenOf (va_wsS RX6 116 yX6_signOf wsX6_signOf) := goodIn_app (goodIn_of _ (by decide +kernel)) ggX6_tokenOf_X6_signOf
theorem dX6_tokenOf_0 : decode cX6_tokenOf 0 = .ok (.aload_n 0, 1) := by decide +kernel
theorem dX6_tokenOf_1 : decode cX6_tokenOf 1 = .ok (.getfield 22, 3) := by decide +kernel
theorem dX6_tokenOf_4 : decode cX6_tokenOf 4 = .ok (.iload_n 1, 1) := by decide +kernel
theorem dX6_tokenOf_5 : decode cX6_tokenOf 5 = .ok (.caload, 1) := by decide +kernel
theorem dX6_tokenOf_6 : decode cX6_tokenOf 6 = .ok (.invokestatic 104, 3) := by decide +kernel
theorem dX6_tokenOf_9 : decode cX6_tokenOf 9 = .ok (.ifCond .eq 10, 3) := by decide +kernel
theorem dX6_tokenOf_12 : decode cX6_tokenOf 12 = .ok (.aload_n 0, 1) := by decide +kernel
theorem dX6_tokenOf_13 : decode cX6_tokenOf 13 = .ok (.iload_n 1, 1) := by decide +kernel
theorem dX6_tokenOf_14 : decode cX6_tokenOf 14 = .ok (.iload_n 2, 1) := by decide +kernel
theorem dX6_tokenOf_15 : decode cX6_tokenOf 15 = .ok (.invokevirtual 110, 3) := by decide +kernel
theorem dX6_tokenOf_18 : decode cX6_tokenOf 18 = .ok (.ireturn, 1) := by decide +kernel
theorem dX6_tokenOf_19 : decode cX6_tokenOf 19 = .ok (.aload_n 0, 1) := by decide +kernel
theorem dX6_tokenOf_20 : decode cX6_tokenOf 20 = .ok (.getfield 22, 3) := by decide +kernel
theorem dX6_tokenOf_23 : decode cX6_tokenOf 23 = .ok (.iload_n 1, 1) := by decide +kernel
theorem dX6_tokenOf_24 : decode cX6_tokenOf 24 = .ok (.caload, 1) := by decide +kernel
theorem dX6_tokenOf_25 : decode cX6_tokenOf 25 = .ok (.invokestatic 107, 3) := by decide +kernel
theorem dX6_tokenOf_28 : decode cX6_tokenOf 28 = .ok (.ifCond .eq 10, 3) := by decide +kernel
theorem dX6_tokenOf_31 : decode cX6_tokenOf 31 = .ok (.aload_n 0, 1) := by decide +kernel
theorem dX6_tokenOf_32 : decode cX6_tokenOf 32 = .ok (.iload_n 1, 1) := by decide +kernel
theorem dX6_tokenOf_33 : decode cX6_tokenOf 33 = .ok (.iload_n 2, 1) := by decide +kernel
theorem dX6_tokenOf_34 : decode cX6_tokenOf 34 = .ok (.invokevirtual 113, 3) := by decide +kernel
theorem dX6_tokenOf_37 : decode cX6_tokenOf 37 = .ok (.ireturn, 1) := by decide +kernel
theorem dX6_tokenOf_38 : decode cX6_tokenOf 38 = .ok (.aload_n 0, 1) := by decide +kernel
theorem dX6_tokenOf_39 : decode cX6_tokenOf 39 = .ok (.getfield 22, 3) := by decide +kernel
theorem dX6_tokenOf_42 : decode cX6_tokenOf 42 = .ok (.iload_n 1, 1) := by decide +kernel
theorem dX6_tokenOf_43 : decode cX6_tokenOf 43 = .ok (.caload, 1) := by decide +kernel
theorem dX6_tokenOf_44 : decode cX6_tokenOf 44 = .ok (.invokestatic 116, 3) := by decide +kernel
theorem dX6_tokenOf_47 : decode cX6_tokenOf 47 = .ok (.ireturn, 1) := by decide +kernel
set_option maxRecDepth 20000 in
theorem ggX6_wordOf_X6_isSpelt : GoodIn wsX6_wordOf wsX6_isSpelt := goodIn_r _ [5, 6, 7, 8, 9, 10, 11, 12, 13, 14, 15, 16, 17, 18, 19, 20, 21, 22, 23, 24, 25, 26, 27, 28, 29, 30, 31, 32, 33, 34, 35, 36, 37, 38, 39, 40, 41, 42, 43, 44, 45, 46, 47, 48, 49, 50, 51, 52, 53, 54, 55, 56, 57, 58, 59, 60, 61, 62, 63] (by decide +kernel) (by decide +kernel)
set_option maxRecDepth 20000 in
theorem gX6_wordOf_X6_isSpelt : GoodIn wsX6_wordOf (wsV RX6 122 RX6 yX6_isSpelt wsX6_isSpelt) := goodIn_app (goodIn_of _ (by decide +kernel)) ggX6_wordOf_X6_isSpelt
theorem dX6_wordOf_0 : decode cX6_wordOf 0 = .ok (.aload_n 0, 1) := by decide +kernel
theorem dX6_wordOf_1 : decode cX6_wordOf 1 = .ok (.iload_n 1, 1) := by decide +kernel
theorem dX6_wordOf_2 : decode cX6_wordOf 2 = .ok (.iload_n 2, 1) := by decide +kernel
theorem dX6_wordOf_3 : decode cX6_wordOf 3 = .ok (.ldc 120, 2) := by decide +kernel
theorem dX6_wordOf_5 : decode cX6_wordOf 5 = .ok (.invokevirtual 122, 3) := by decide +kernel
theorem dX6_wordOf_8 : decode cX6_wordOf 8 = .ok (.ifCond .eq 7, 3) := by decide +kernel
theorem dX6_wordOf_11 : decode cX6_wordOf 11 = .ok (.sipush 10011, 3) := by decide +kernel
theorem dX6_wordOf_14 : decode cX6_wordOf 14 = .ok (.ireturn, 1) := by decide +kernel
theorem dX6_wordOf_15 : decode cX6_wordOf 15 = .ok (.aload_n 0, 1) := by decide +kernel
theorem dX6_wordOf_16 : decode cX6_wordOf 16 = .ok (.iload_n 1, 1) := by decide +kernel
theorem dX6_wordOf_17 : decode cX6_wordOf 17 = .ok (.iload_n 2, 1) := by decide +kernel
theorem dX6_wordOf_18 : decode cX6_wordOf 18 = .ok (.ldc 126, 2) := by decide +kernel
theorem dX6_wordOf_20 : decode cX6_wordOf 20 = .ok (.invokevirtual 122, 3) := by decide +kernel
theorem dX6_wordOf_23 : decode cX6_wordOf 23 = .ok (.ifCond .eq 7, 3) := by decide +kernel
theorem dX6_wordOf_26 : decode cX6_wordOf 26 = .ok (.sipush 10012, 3) := by decide +kernel
theorem dX6_wordOf_29 : decode cX6_wordOf 29 = .ok (.ireturn, 1) := by decide +kernel
theorem dX6_wordOf_30 : decode cX6_wordOf 30 = .ok (.aload_n 0, 1) := by decide +kernel
theorem dX6_wordOf_31 : decode cX6_wordOf 31 = .ok (.iload_n 1, 1) := by decide +kernel
theorem dX6_wordOf_32 : decode cX6_wordOf 32 = .ok (.iload_n 2, 1) := by decide +kernel
theorem dX6_wordOf_33 : decode cX6_wordOf 33 = .ok (.ldc 128, 2) := by decide +kernel
theorem dX6_wordOf_35 : decode cX6_wordOf 35 = .ok (.invokevirtual 122, 3) := by decide +kernel
theorem dX6_wordOf_38 : decode cX6_wordOf 38 = .ok (.ifCond .eq 7, 3) := by decide +kernel
theorem dX6_wordOf_41 : decode cX6_wordOf 41 = .ok (.sipush 10010, 3) := by decide +kernel
theorem dX6_wordOf_44 : decode cX6_wordOf 44 = .ok (.ireturn, 1) := by decide +kernel
theorem dX6_wordOf_45 : decode cX6_wordOf 45 = .ok (.aload_n 0, 1) := by decide +kernel
theorem dX6_wordOf_46 : decode cX6_wordOf 46 = .ok (.iload_n 1, 1) := by decide +kernel
theorem dX6_wordOf_47 : decode cX6_wordOf 47 = .ok (.iload_n 2, 1) := by decide +kernel
theorem dX6_wordOf_48 : decode cX6_wordOf 48 = .ok (.ldc 130, 2) := by decide +kernel
theorem dX6_wordOf_50 : decode cX6_wordOf 50 = .ok (.invokevirtual 122, 3) := by decide +kernel
theorem dX6_wordOf_53 : decode cX6_wordOf 53 = .ok (.ifCond .eq 7, 3) := by decide +kernel
theorem dX6_wordOf_56 : decode cX6_wordOf 56 = .ok (.sipush 10000, 3) := by decide +kernel
theorem dX6_wordOf_59 : decode cX6_wordOf 59 = .ok (.ireturn, 1) := by decide +kernel
theorem dX6_wordOf_60 : decode cX6_wordOf 60 = .ok (.aload_n 0, 1) := by decide +kernel
theorem dX6_wordOf_61 : decode cX6_wordOf 61 = .ok (.iload_n 1, 1) := by decide +kernel
theorem dX6_wordOf_62 : decode cX6_wordOf 62 = .ok (.iload_n 2, 1) := by decide +kernel
theorem dX6_wordOf_63 : decode cX6_wordOf 63 = .ok (.ldc 132, 2) := by decide +kernel
theorem dX6_wordOf_65 : decode cX6_wordOf 65 = .ok (.invokevirtual 122, 3) := by decide +kernel
theorem dX6_wordOf_68 : decode cX6_wordOf 68 = .ok (.ifCond .eq 7, 3) := by decide +kernel
theorem dX6_wordOf_71 : decode cX6_wordOf 71 = .ok (.sipush 10001, 3) := by decide +kernel
theorem dX6_wordOf_74 : decode cX6_wordOf 74 = .ok (.ireturn, 1) := by decide +kernel
theorem dX6_wordOf_75 : decode cX6_wordOf 75 = .ok (.aload_n 0, 1) := by decide +kernel
theorem dX6_wordOf_76 : decode cX6_wordOf 76 = .ok (.iload_n 1, 1) := by decide +kernel
theorem dX6_wordOf_77 : decode cX6_wordOf 77 = .ok (.iload_n 2, 1) := by decide +kernel
theorem dX6_wordOf_78 : decode cX6_wordOf 78 = .ok (.ldc 134, 2) := by decide +kernel
theorem dX6_wordOf_80 : decode cX6_wordOf 80 = .ok (.invokevirtual 122, 3) := by decide +kernel
theorem dX6_wordOf_83 : decode cX6_wordOf 83 = .ok (.ifCond .eq 7, 3) := by decide +kernel
theorem dX6_wordOf_86 : decode cX6_wordOf 86 = .ok (.sipush 10002, 3) := by decide +kernel
theorem dX6_wordOf_89 : decode cX6_wordOf 89 = .ok (.ireturn, 1) := by decide +kernel
theorem dX6_wordOf_90 : decode cX6_wordOf 90 = .ok (.aload_n 0, 1) := by decide +kernel
theorem dX6_wordOf_91 : decode cX6_wordOf 91 = .ok (.iload_n 1, 1) := by decide +kernel
theorem dX6_wordOf_92 : decode cX6_wordOf 92 = .ok (.iload_n 2, 1) := by decide +kernel
theorem dX6_wordOf_93 : decode cX6_wordOf 93 = .ok (.ldc 136, 2) := by decide +kernel
theorem dX6_wordOf_95 : decode cX6_wordOf 95 = .ok (.invokevirtual 122, 3) := by decide +kernel
theorem dX6_wordOf_98 : decode cX6_wordOf 98 = .ok (.ifCond .eq 7, 3) := by decide +kernel
theorem dX6_wordOf_101 : decode cX6_wordOf 101 = .ok (.sipush 10003, 3) := by decide +kernel
theorem dX6_wordOf_104 : decode cX6_wordOf 104 = .ok (.ireturn, 1) := by decide +kernel
theorem dX6_wordOf_105 : decode cX6_wordOf 105 = .ok (.aload_n 0, 1) := by decide +kernel
theorem dX6_wordOf_106 : decode cX6_wordOf 106 = .ok (.iload_n 1, 1) := by decide +kernel
theorem dX6_wordOf_107 : decode cX6_wordOf 107 = .ok (.iload_n 2, 1) := by decide +kernel
theorem dX6_wordOf_108 : decode cX6_wordOf 108 = .ok (.ldc 138, 2) := by decide +kernel
theorem dX6_wordOf_110 : decode cX6_wordOf 110 = .ok (.invokevirtual 122, 3) := by decide +kernel
theorem dX6_wordOf_113 : decode cX6_wordOf 113 = .ok (.ifCond .eq 7, 3) := by decide +kernel
theorem dX6_wordOf_116 : decode cX6_wordOf 116 = .ok (.sipush 10004, 3) := by decide +kernel
theorem dX6_wordOf_119 : decode cX6_wordOf 119 = .ok (.ireturn, 1) := by decide +kernel
theorem dX6_wordOf_120 : decode cX6_wordOf 120 = .ok (.aload_n 0, 1) := by decide +kernel
theorem dX6_wordOf_121 : decode cX6_wordOf 121 = .ok (.iload_n 1, 1) := by decide +kernel
theorem dX6_wordOf_122 : decode cX6_wordOf 122 = .ok (.iload_n 2, 1) := by decide +kernel
theorem dX6_wordOf_123 : decode cX6_wordOf 123 = .ok (.ldc 140, 2) := by decide +kernel
theorem dX6_wordOf_125 : decode cX6_wordOf 125 = .ok (.invokevirtual 122, 3) := by decide +kernel
theorem dX6_wordOf_128 : decode cX6_wordOf 128 = .ok (.ifCond .eq 9, 3) := by decide +kernel
theorem dX6_wordOf_131 : decode cX6_wordOf 131 = .ok (.sipush 10005, 3) := by decide +kernel
theorem dX6_wordOf_134 : decode cX6_wordOf 134 = .ok (.goto 6, 3) := by decide +kernel
theorem dX6_wordOf_137 : decode cX6_wordOf 137 = .ok (.sipush 10017, 3) := by decide +kernel
theorem dX6_wordOf_140 : decode cX6_wordOf 140 = .ok (.ireturn, 1) := by decide +kernel
set_option maxRecDepth 20000 in
theorem ggX6_isSpelt_J0_length_8abf5 : GoodIn wsX6_isSpelt wsJ0_length_8abf5 := goodIn_r _ [6, 7, 8, 9, 10, 5, 11, 12, 13] (by decide +kernel) (by decide +kernel)
set_option maxRecDepth 20000 in
theorem gX6_isSpelt_J0_length_8abf5 : GoodIn wsX6_isSpelt (wsV RX6 142 RJ0 yJ0_length_8abf5 wsJ0_length_8abf5) := goodIn_app (goodIn_of _ (by decide +kernel)) ggX6_isSpelt_J0_length_8abf5
set_option maxRecDepth 20000 in
theorem ggX6_isSpelt_J0_charAt_5068e : GoodIn wsX6_isSpelt wsJ0_charAt_5068e := goodIn_r _ [17, 7, 18, 19, 20, 5, 21, 12, 13, 22, 23, 24, 25, 26, 27, 28, 29, 30, 31, 32, 33, 34, 35, 36, 37, 38, 39, 40, 41, 42, 43, 44, 45, 46, 47, 48, 49, 50] (by decide +kernel) (by decide +kernel)
set_option maxRecDepth 20000 in
theorem gX6_isSpelt_J0_charAt_5068e : GoodIn wsX6_isSpelt (wsV RX6 146 RJ0 yJ0_charAt_5068e wsJ0_charAt_5068e) := goodIn_app (goodIn_of _ (by decide +kernel)) ggX6_isSpelt_J0_charAt_5068e
theorem dX6_isSpelt_0 : decode cX6_isSpelt 0 = .ok (.iload_n 2, 1) := by decide +kernel
theorem dX6_isSpelt_1 : decode cX6_isSpelt 1 = .ok (.iload_n 1, 1) := by decide +kernel
theorem dX6_isSpelt_2 : decode cX6_isSpelt 2 = .ok (.isub, 1) := by decide +kernel
theorem dX6_isSpelt_3 : decode cX6_isSpelt 3 = .ok (.aload_n 3, 1) := by decide +kernel
theorem dX6_isSpelt_4 : decode cX6_isSpelt 4 = .ok (.invokevirtual 142, 3) := by decide +kernel
theorem dX6_isSpelt_7 : decode cX6_isSpelt 7 = .ok (.if_icmp .eq 5, 3) := by decide +kernel
theorem dX6_isSpelt_10 : decode cX6_isSpelt 10 = .ok (.iconst 0, 1) := by decide +kernel
theorem dX6_isSpelt_11 : decode cX6_isSpelt 11 = .ok (.ireturn, 1) := by decide +kernel
theorem dX6_isSpelt_12 : decode cX6_isSpelt 12 = .ok (.iconst 0, 1) := by decide +kernel
theorem dX6_isSpelt_13 : decode cX6_isSpelt 13 = .ok (.istore 4, 2) := by decide +kernel
theorem dX6_isSpelt_15 : decode cX6_isSpelt 15 = .ok (.iload 4, 2) := by decide +kernel
theorem dX6_isSpelt_17 : decode cX6_isSpelt 17 = .ok (.aload_n 3, 1) := by decide +kernel
theorem dX6_isSpelt_18 : decode cX6_isSpelt 18 = .ok (.invokevirtual 142, 3) := by decide +kernel
theorem dX6_isSpelt_21 : decode cX6_isSpelt 21 = .ok (.if_icmp .ge 29, 3) := by decide +kernel
theorem dX6_isSpelt_24 : decode cX6_isSpelt 24 = .ok (.aload_n 0, 1) := by decide +kernel
theorem dX6_isSpelt_25 : decode cX6_isSpelt 25 = .ok (.getfield 22, 3) := by decide +kernel
theorem dX6_isSpelt_28 : decode cX6_isSpelt 28 = .ok (.iload_n 1, 1) := by decide +kernel
theorem dX6_isSpelt_29 : decode cX6_isSpelt 29 = .ok (.iload 4, 2) := by decide +kernel
theorem dX6_isSpelt_31 : decode cX6_isSpelt 31 = .ok (.iadd, 1) := by decide +kernel
theorem dX6_isSpelt_32 : decode cX6_isSpelt 32 = .ok (.caload, 1) := by decide +kernel
theorem dX6_isSpelt_33 : decode cX6_isSpelt 33 = .ok (.aload_n 3, 1) := by decide +kernel
theorem dX6_isSpelt_34 : decode cX6_isSpelt 34 = .ok (.iload 4, 2) := by decide +kernel
theorem dX6_isSpelt_36 : decode cX6_isSpelt 36 = .ok (.invokevirtual 146, 3) := by decide +kernel
theorem dX6_isSpelt_39 : decode cX6_isSpelt 39 = .ok (.if_icmp .eq 5, 3) := by decide +kernel
theorem dX6_isSpelt_42 : decode cX6_isSpelt 42 = .ok (.iconst 0, 1) := by decide +kernel
theorem dX6_isSpelt_43 : decode cX6_isSpelt 43 = .ok (.ireturn, 1) := by decide +kernel
theorem dX6_isSpelt_44 : decode cX6_isSpelt 44 = .ok (.iinc 4 1, 3) := by decide +kernel
theorem dX6_isSpelt_47 : decode cX6_isSpelt 47 = .ok (.goto (-32), 3) := by decide +kernel
theorem dX6_isSpelt_50 : decode cX6_isSpelt 50 = .ok (.iconst 1, 1) := by decide +kernel
theorem dX6_isSpelt_51 : decode cX6_isSpelt 51 = .ok (.ireturn, 1) := by decide +kernel
theorem dX6_numberOf_0 : decode cX6_numberOf 0 = .ok (.iload_n 2, 1) := by decide +kernel
theorem dX6_numberOf_1 : decode cX6_numberOf 1 = .ok (.iload_n 1, 1) := by decide +kernel
theorem dX6_numberOf_2 : decode cX6_numberOf 2 = .ok (.isub, 1) := by decide +kernel
theorem dX6_numberOf_3 : decode cX6_numberOf 3 = .ok (.iconst 4, 1) := by decide +kernel
theorem dX6_numberOf_4 : decode cX6_numberOf 4 = .ok (.if_icmp .le 7, 3) := by decide +kernel
theorem dX6_numberOf_7 : decode cX6_numberOf 7 = .ok (.sipush 10017, 3) := by decide +kernel
theorem dX6_numberOf_10 : decode cX6_numberOf 10 = .ok (.ireturn, 1) := by decide +kernel
theorem dX6_numberOf_11 : decode cX6_numberOf 11 = .ok (.iconst 0, 1) := by decide +kernel
theorem dX6_numberOf_12 : decode cX6_numberOf 12 = .ok (.istore_n 3, 1) := by decide +kernel
theorem dX6_numberOf_13 : decode cX6_numberOf 13 = .ok (.iload_n 1, 1) := by decide +kernel
theorem dX6_numberOf_14 : decode cX6_numberOf 14 = .ok (.istore 4, 2) := by decide +kernel
theorem dX6_numberOf_16 : decode cX6_numberOf 16 = .ok (.iload 4, 2) := by decide +kernel
theorem dX6_numberOf_18 : decode cX6_numberOf 18 = .ok (.iload_n 2, 1) := by decide +kernel
theorem dX6_numberOf_19 : decode cX6_numberOf 19 = .ok (.if_icmp .ge 25, 3) := by decide +kernel
theorem dX6_numberOf_22 : decode cX6_numberOf 22 = .ok (.bipush 10, 2) := by decide +kernel
theorem dX6_numberOf_24 : decode cX6_numberOf 24 = .ok (.iload_n 3, 1) := by decide +kernel
theorem dX6_numberOf_25 : decode cX6_numberOf 25 = .ok (.imul, 1) := by decide +kernel
theorem dX6_numberOf_26 : decode cX6_numberOf 26 = .ok (.aload_n 0, 1) := by decide +kernel
theorem dX6_numberOf_27 : decode cX6_numberOf 27 = .ok (.getfield 22, 3) := by decide +kernel
theorem dX6_numberOf_30 : decode cX6_numberOf 30 = .ok (.iload 4, 2) := by decide +kernel
theorem dX6_numberOf_32 : decode cX6_numberOf 32 = .ok (.caload, 1) := by decide +kernel
theorem dX6_numberOf_33 : decode cX6_numberOf 33 = .ok (.iadd, 1) := by decide +kernel
theorem dX6_numberOf_34 : decode cX6_numberOf 34 = .ok (.bipush 48, 2) := by decide +kernel
theorem dX6_numberOf_36 : decode cX6_numberOf 36 = .ok (.isub, 1) := by decide +kernel
theorem dX6_numberOf_37 : decode cX6_numberOf 37 = .ok (.istore_n 3, 1) := by decide +kernel
theorem dX6_numberOf_38 : decode cX6_numberOf 38 = .ok (.iinc 4 1, 3) := by decide +kernel
theorem dX6_numberOf_41 : decode cX6_numberOf 41 = .ok (.goto (-25), 3) := by decide +kernel
theorem dX6_numberOf_44 : decode cX6_numberOf 44 = .ok (.iload_n 3, 1) := by decide +kernel
theorem dX6_numberOf_45 : decode cX6_numberOf 45 = .ok (.ireturn, 1) := by decide +kernel
theorem dX6_signOf_0 : decode cX6_signOf 0 = .ok (.iload_n 0, 1) := by decide +kernel
theorem dX6_signOf_1 : decode cX6_signOf 1 = .ok (.tableswitch 131 40 61 #[103, 107, 131, 119, 131, 123, 131, 131, 131, 131, 131, 131, 131, 131, 131, 131, 131, 131, 131, 127, 111, 115], 103) := by decide +kernel
theorem dX6_signOf_104 : decode cX6_signOf 104 = .ok (.sipush 10013, 3) := by decide +kernel
theorem dX6_signOf_107 : decode cX6_signOf 107 = .ok (.ireturn, 1) := by decide +kernel
theorem dX6_signOf_108 : decode cX6_signOf 108 = .ok (.sipush 10014, 3) := by decide +kernel
theorem dX6_signOf_111 : decode cX6_signOf 111 = .ok (.ireturn, 1) := by decide +kernel
theorem dX6_signOf_112 : decode cX6_signOf 112 = .ok (.sipush 10008, 3) := by decide +kernel
theorem dX6_signOf_115 : decode cX6_signOf 115 = .ok (.ireturn, 1) := by decide +kernel
theorem dX6_signOf_116 : decode cX6_signOf 116 = .ok (.sipush 10009, 3) := by decide +kernel
theorem dX6_signOf_119 : decode cX6_signOf 119 = .ok (.ireturn, 1) := by decide +kernel
theorem dX6_signOf_120 : decode cX6_signOf 120 = .ok (.sipush 10006, 3) := by decide +kernel
theorem dX6_signOf_123 : decode cX6_signOf 123 = .ok (.ireturn, 1) := by decide +kernel
theorem dX6_signOf_124 : decode cX6_signOf 124 = .ok (.sipush 10007, 3) := by decide +kernel
theorem dX6_signOf_127 : decode cX6_signOf 127 = .ok (.ireturn, 1) := by decide +kernel
theorem dX6_signOf_128 : decode cX6_signOf 128 = .ok (.sipush 10015, 3) := by decide +kernel
theorem dX6_signOf_131 : decode cX6_signOf 131 = .ok (.ireturn, 1) := by decide +kernel
theorem dX6_signOf_132 : decode cX6_signOf 132 = .ok (.sipush 10017, 3) := by decide +kernel
theorem dX6_signOf_135 : decode cX6_signOf 135 = .ok (.ireturn, 1) := by decide +kernel
theorem dX6_isBlank_0 : decode cX6_isBlank 0 = .ok (.iload_n 0, 1) := by decide +kernel
theorem dX6_isBlank_1 : decode cX6_isBlank 1 = .ok (.bipush 10, 2) := by decide +kernel
theorem dX6_isBlank_3 : decode cX6_isBlank 3 = .ok (.if_icmp .eq 9, 3) := by decide +kernel
theorem dX6_isBlank_6 : decode cX6_isBlank 6 = .ok (.iload_n 0, 1) := by decide +kernel
theorem dX6_isBlank_7 : decode cX6_isBlank 7 = .ok (.bipush 32, 2) := by decide +kernel
theorem dX6_isBlank_9 : decode cX6_isBlank 9 = .ok (.if_icmp .ne 7, 3) := by decide +kernel
theorem dX6_isBlank_12 : decode cX6_isBlank 12 = .ok (.iconst 1, 1) := by decide +kernel
theorem dX6_isBlank_13 : decode cX6_isBlank 13 = .ok (.goto 4, 3) := by decide +kernel
theorem dX6_isBlank_16 : decode cX6_isBlank 16 = .ok (.iconst 0, 1) := by decide +kernel
theorem dX6_isBlank_17 : decode cX6_isBlank 17 = .ok (.ireturn, 1) := by decide +kernel
theorem dX6_isLetter_0 : decode cX6_isLetter 0 = .ok (.iload_n 0, 1) := by decide +kernel
theorem dX6_isLetter_1 : decode cX6_isLetter 1 = .ok (.bipush 97, 2) := by decide +kernel
theorem dX6_isLetter_3 : decode cX6_isLetter 3 = .ok (.if_icmp .lt 13, 3) := by decide +kernel
theorem dX6_isLetter_6 : decode cX6_isLetter 6 = .ok (.iload_n 0, 1) := by decide +kernel
theorem dX6_isLetter_7 : decode cX6_isLetter 7 = .ok (.bipush 122, 2) := by decide +kernel
theorem dX6_isLetter_9 : decode cX6_isLetter 9 = .ok (.if_icmp .gt 7, 3) := by decide +kernel
theorem dX6_isLetter_12 : decode cX6_isLetter 12 = .ok (.iconst 1, 1) := by decide +kernel
theorem dX6_isLetter_13 : decode cX6_isLetter 13 = .ok (.goto 4, 3) := by decide +kernel
theorem dX6_isLetter_16 : decode cX6_isLetter 16 = .ok (.iconst 0, 1) := by decide +kernel
theorem dX6_isLetter_17 : decode cX6_isLetter 17 = .ok (.ireturn, 1) := by decide +kernel
theorem dX6_isDigit_0 : decode cX6_isDigit 0 = .ok (.iload_n 0, 1) := by decide +kernel
theorem dX6_isDigit_1 : decode cX6_isDigit 1 = .ok (.bipush 48, 2) := by decide +kernel
theorem dX6_isDigit_3 : decode cX6_isDigit 3 = .ok (.if_icmp .lt 13, 3) := by decide +kernel
theorem dX6_isDigit_6 : decode cX6_isDigit 6 = .ok (.iload_n 0, 1) := by decide +kernel
theorem dX6_isDigit_7 : decode cX6_isDigit 7 = .ok (.bipush 57, 2) := by decide +kernel
theorem dX6_isDigit_9 : decode cX6_isDigit 9 = .ok (.if_icmp .gt 7, 3) := by decide +kernel
theorem dX6_isDigit_12 : decode cX6_isDigit 12 = .ok (.iconst 1, 1) := by decide +kernel
theorem dX6_isDigit_13 : decode cX6_isDigit 13 = .ok (.goto 4, 3) := by decide +kernel
theorem dX6_isDigit_16 : decode cX6_isDigit 16 = .ok (.iconst 0, 1) := by decide +kernel
theorem dX6_isDigit_17 : decode cX6_isDigit 17 = .ok (.ireturn, 1) := by decide +kernel
set_option maxRecDepth 20000 in
theorem ggX8_init_X0_init : GoodIn wsX8_init wsX0_init := goodIn_r _ [36, 37, 2, 3, 14, 38, 39, 40, 41, 42, 43, 44, 45, 46, 47, 83, 84, 85, 86, 87, 88, 89, 90, 91] (by decide +kernel) (by decide +kernel)
set_option maxRecDepth 20000 in
theorem gX8_init_X0_init : GoodIn wsX8_init (wsX0_init) := ggX8_init_X0_init
set_option maxRecDepth 20000 in
theorem ggX8_init_X2_init : GoodIn wsX8_init wsX2_init := goodIn_r _ [49, 50, 2, 3, 14, 51, 52, 102, 103, 104] (by decide +kernel) (by decide +kernel)
set_option maxRecDepth 20000 in
theorem gX8_init_X2_init_n24 : GoodIn wsX8_init (wsX2_init) := ggX8_init_X2_init
set_option maxRecDepth 20000 in
theorem ggX8_init_X4_init : GoodIn wsX8_init wsX4_init := goodIn_r _ [54, 55, 2, 3, 56, 57, 105, 106] (by decide +kernel) (by decide +kernel)
set_option maxRecDepth 20000 in
theorem gX8_init_X4_init_n37 : GoodIn wsX8_init (wsX4_init) := ggX8_init_X4_init
set_option maxRecDepth 20000 in
theorem ggX8_init_X6_init : GoodIn wsX8_init wsX6_init := goodIn_r _ [59, 60, 2, 3, 14, 61, 62, 107, 108, 109, 110, 111, 112, 113, 114] (by decide +kernel) (by decide +kernel)
set_option maxRecDepth 20000 in
theorem gX8_init_X6_init_n44 : GoodIn wsX8_init (wsX6_init) := ggX8_init_X6_init
set_option maxRecDepth 20000 in
theorem ggX8_init_X3_init : GoodIn wsX8_init wsX3_init := goodIn_r _ [64, 65, 2, 3, 14, 66, 67, 68, 69, 39, 70, 71, 72, 73, 74, 75, 115, 116, 117, 118, 119, 120, 121, 122, 123, 124, 125, 126, 127, 128, 129, 130, 131, 132] (by decide +kernel) (by decide +kernel)
set_option maxRecDepth 20000 in
theorem gX8_init_X3_init_n51 : GoodIn wsX8_init (wsX3_init) := ggX8_init_X3_init
set_option maxRecDepth 20000 in
theorem ggX8_init_X5_init : GoodIn wsX8_init wsX5_init := goodIn_r _ [77, 78, 2, 3, 14, 79, 80, 81, 82, 133, 134, 135, 136, 137, 138] (by decide +kernel) (by decide +kernel)
set_option maxRecDepth 20000 in
theorem gX8_init_X5_init_n56 : GoodIn wsX8_init (wsX5_init) := ggX8_init_X5_init
theorem dX8_init_0 : decode cX8_init 0 = .ok (.aload_n 0, 1) := by decide +kernel
theorem dX8_init_1 : decode cX8_init 1 = .ok (.invokespecial 3, 3) := by decide +kernel
theorem dX8_init_4 : decode cX8_init 4 = .ok (.aload_n 0, 1) := by decide +kernel
theorem dX8_init_5 : decode cX8_init 5 = .ok (.new 9, 3) := by decide +kernel
theorem dX8_init_8 : decode cX8_init 8 = .ok (.dup, 1) := by decide +kernel
theorem dX8_init_9 : decode cX8_init 9 = .ok (.invokespecial 11, 3) := by decide +kernel
theorem dX8_init_12 : decode cX8_init 12 = .ok (.putfield 12, 3) := by decide +kernel
theorem dX8_init_15 : decode cX8_init 15 = .ok (.aload_n 0, 1) := by decide +kernel
theorem dX8_init_16 : decode cX8_init 16 = .ok (.bipush 60, 2) := by decide +kernel
theorem dX8_init_18 : decode cX8_init 18 = .ok (.anewarray 16, 3) := by decide +kernel
theorem dX8_init_21 : decode cX8_init 21 = .ok (.putfield 18, 3) := by decide +kernel
theorem dX8_init_24 : decode cX8_init 24 = .ok (.aload_n 0, 1) := by decide +kernel
theorem dX8_init_25 : decode cX8_init 25 = .ok (.new 22, 3) := by decide +kernel
theorem dX8_init_28 : decode cX8_init 28 = .ok (.dup, 1) := by decide +kernel
theorem dX8_init_29 : decode cX8_init 29 = .ok (.invokespecial 24, 3) := by decide +kernel
theorem dX8_init_32 : decode cX8_init 32 = .ok (.putfield 25, 3) := by decide +kernel
theorem dX8_init_35 : decode cX8_init 35 = .ok (.aload_n 0, 1) := by decide +kernel
theorem dX8_init_36 : decode cX8_init 36 = .ok (.bipush 6, 2) := by decide +kernel
theorem dX8_init_38 : decode cX8_init 38 = .ok (.newarray .int, 2) := by decide +kernel
theorem dX8_init_40 : decode cX8_init 40 = .ok (.putfield 31, 3) := by decide +kernel
theorem dX8_init_43 : decode cX8_init 43 = .ok (.aload_n 0, 1) := by decide +kernel
theorem dX8_init_44 : decode cX8_init 44 = .ok (.new 35, 3) := by decide +kernel
theorem dX8_init_47 : decode cX8_init 47 = .ok (.dup, 1) := by decide +kernel
theorem dX8_init_48 : decode cX8_init 48 = .ok (.invokespecial 37, 3) := by decide +kernel
theorem dX8_init_51 : decode cX8_init 51 = .ok (.putfield 38, 3) := by decide +kernel
theorem dX8_init_54 : decode cX8_init 54 = .ok (.aload_n 0, 1) := by decide +kernel
theorem dX8_init_55 : decode cX8_init 55 = .ok (.new 42, 3) := by decide +kernel
theorem dX8_init_58 : decode cX8_init 58 = .ok (.dup, 1) := by decide +kernel
theorem dX8_init_59 : decode cX8_init 59 = .ok (.invokespecial 44, 3) := by decide +kernel
theorem dX8_init_62 : decode cX8_init 62 = .ok (.putfield 45, 3) := by decide +kernel
theorem dX8_init_65 : decode cX8_init 65 = .ok (.aload_n 0, 1) := by decide +kernel
theorem dX8_init_66 : decode cX8_init 66 = .ok (.new 49, 3) := by decide +kernel
theorem dX8_init_69 : decode cX8_init 69 = .ok (.dup, 1) := by decide +kernel
theorem dX8_init_70 : decode cX8_init 70 = .ok (.invokespecial 51, 3) := by decide +kernel
theorem dX8_init_73 : decode cX8_init 73 = .ok (.putfield 52, 3) := by decide +kernel
theorem dX8_init_76 : decode cX8_init 76 = .ok (.aload_n 0, 1) := by decide +kernel
theorem dX8_init_77 : decode cX8_init 77 = .ok (.new 29, 3) := by decide +kernel
theorem dX8_init_80 : decode cX8_init 80 = .ok (.dup, 1) := by decide +kernel
theorem dX8_init_81 : decode cX8_init 81 = .ok (.invokespecial 56, 3) := by decide +kernel
theorem dX8_init_84 : decode cX8_init 84 = .ok (.putfield 57, 3) := by decide +kernel
theorem dX8_init_87 : decode cX8_init 87 = .ok (.aload_n 0, 1) := by decide +kernel
theorem dX8_init_88 : decode cX8_init 88 = .ok (.new 29, 3) := by decide +kernel
theorem dX8_init_91 : decode cX8_init 91 = .ok (.dup, 1) := by decide +kernel
theorem dX8_init_92 : decode cX8_init 92 = .ok (.invokespecial 56, 3) := by decide +kernel
theorem dX8_init_95 : decode cX8_init 95 = .ok (.putfield 61, 3) := by decide +kernel
theorem dX8_init_98 : decode cX8_init 98 = .ok (.aload_n 0, 1) := by decide +kernel
theorem dX8_init_99 : decode cX8_init 99 = .ok (.iconst 0, 1) := by decide +kernel
theorem dX8_init_100 : decode cX8_init 100 = .ok (.putfield 64, 3) := by decide +kernel
theorem dX8_init_103 : decode cX8_init 103 = .ok (.return_, 1) := by decide +kernel
set_option maxRecDepth 20000 in
theorem ggX8_examiner_X0_addExaminer : GoodIn wsX8_examiner wsX0_addExaminer := goodIn_r _ [6, 7, 18, 19, 20, 21, 22, 23, 24, 25, 26] (by decide +kernel) (by decide +kernel)
set_option maxRecDepth 20000 in
theorem gX8_examiner_X0_addExaminer : GoodIn wsX8_examiner (wsV RX8 68 RX0 yX0_addExaminer wsX0_addExaminer) := goodIn_app (goodIn_of _ (by decide +kernel)) ggX8_examiner_X0_addExaminer
theorem dX8_examiner_0 : decode cX8_examiner 0 = .ok (.aload_n 0, 1) := by decide +kernel
theorem dX8_examiner_1 : decode cX8_examiner 1 = .ok (.getfield 12, 3) := by decide +kernel
theorem dX8_examiner_4 : decode cX8_examiner 4 = .ok (.invokevirtual 68, 3) := by decide +kernel
theorem dX8_examiner_7 : decode cX8_examiner 7 = .ok (.ireturn, 1) := by decide +kernel
set_option maxRecDepth 20000 in
theorem ggX8_place_X0_isExaminer : GoodIn wsX8_place wsX0_isExaminer := goodIn_r _ [7, 8, 78, 79, 80, 81, 82, 83, 84, 85, 86] (by decide +kernel) (by decide +kernel)
set_option maxRecDepth 20000 in
theorem gX8_place_X0_isExaminer : GoodIn wsX8_place (wsV RX8 72 RX0 yX0_isExaminer wsX0_isExaminer) := goodIn_app (goodIn_of _ (by decide +kernel)) ggX8_place_X0_isExaminer
set_option maxRecDepth 20000 in
theorem ggX8_place_X8_isWithin : GoodIn wsX8_place wsX8_isWithin := goodIn_r _ [12] (by decide +kernel) (by decide +kernel)
set_option maxRecDepth 20000 in
theorem gX8_place_X8_isWithin : GoodIn wsX8_place (va_wsS RX8 76 yX8_isWithin wsX8_isWithin) := goodIn_app (goodIn_of _ (by decide +kernel)) ggX8_place_X8_isWithin
set_option maxRecDepth 20000 in
theorem ggX8_place_X0_setTown : GoodIn wsX8_place wsX0_setTown := goodIn_r _ [16, 17, 18, 4, 5, 6, 7, 8, 19, 11, 20, 78, 79, 80, 81, 82, 83, 84, 85, 86] (by decide +kernel) (by decide +kernel)
set_option maxRecDepth 20000 in
theorem gX8_place_X0_setTown : GoodIn wsX8_place (wsV RX8 83 RX0 yX0_setTown wsX0_setTown) := goodIn_app (goodIn_of _ (by decide +kernel)) ggX8_place_X0_setTown
set_option maxRecDepth 20000 in
theorem ggX8_place_X8_releaseMisplaced : GoodIn wsX8_place wsX8_releaseMisplaced := goodIn_r _ [24, 25, 26, 27, 28, 29, 30, 11, 31, 32, 33, 34, 35, 1, 36, 37, 38, 39, 40, 41, 42, 43, 44, 45, 6, 46, 47, 48, 49, 50, 8, 17, 51, 52, 53, 54, 55, 56, 57, 58, 59, 60, 61, 62, 63, 64, 65, 66, 67, 68, 69, 70, 71, 72, 73, 74, 75, 76, 77, 87, 88, 89, 90, 91, 92, 93, 94, 95, 96, 97, 98, 78, 79, 80, 81, 82, 83, 84, 85, 86] (by decide +kernel) (by decide +kernel)
set_option maxRecDepth 20000 in
theorem gX8_place_X8_releaseMisplaced : GoodIn wsX8_place (wsV RX8 87 RX8 yX8_releaseMisplaced wsX8_releaseMisplaced) := goodIn_app (goodIn_of _ (by decide +kernel)) ggX8_place_X8_releaseMisplaced
theorem dX8_place_0 : decode cX8_place 0 = .ok (.aload_n 0, 1) := by decide +kernel
theorem dX8_place_1 : decode cX8_place 1 = .ok (.getfield 12, 3) := by decide +kernel
theorem dX8_place_4 : decode cX8_place 4 = .ok (.iload_n 1, 1) := by decide +kernel
theorem dX8_place_5 : decode cX8_place 5 = .ok (.invokevirtual 72, 3) := by decide +kernel
theorem dX8_place_8 : decode cX8_place 8 = .ok (.ifCond .eq 16, 3) := by decide +kernel
theorem dX8_place_11 : decode cX8_place 11 = .ok (.iload_n 2, 1) := by decide +kernel
theorem dX8_place_12 : decode cX8_place 12 = .ok (.iconst (-1), 1) := by decide +kernel
theorem dX8_place_13 : decode cX8_place 13 = .ok (.iconst 5, 1) := by decide +kernel
theorem dX8_place_14 : decode cX8_place 14 = .ok (.invokestatic 76, 3) := by decide +kernel
theorem dX8_place_17 : decode cX8_place 17 = .ok (.ifCond .eq 7, 3) := by decide +kernel
theorem dX8_place_20 : decode cX8_place 20 = .ok (.iconst 1, 1) := by decide +kernel
theorem dX8_place_21 : decode cX8_place 21 = .ok (.goto 4, 3) := by decide +kernel
theorem dX8_place_24 : decode cX8_place 24 = .ok (.iconst 0, 1) := by decide +kernel
theorem dX8_place_25 : decode cX8_place 25 = .ok (.istore 5, 2) := by decide +kernel
theorem dX8_place_27 : decode cX8_place 27 = .ok (.iload 5, 2) := by decide +kernel
theorem dX8_place_29 : decode cX8_place 29 = .ok (.ifCond .eq 27, 3) := by decide +kernel
theorem dX8_place_32 : decode cX8_place 32 = .ok (.iload_n 3, 1) := by decide +kernel
theorem dX8_place_33 : decode cX8_place 33 = .ok (.aload_n 0, 1) := by decide +kernel
theorem dX8_place_34 : decode cX8_place 34 = .ok (.getfield 12, 3) := by decide +kernel
theorem dX8_place_37 : decode cX8_place 37 = .ok (.getfield 80, 3) := by decide +kernel
theorem dX8_place_40 : decode cX8_place 40 = .ok (.if_icmp .le 16, 3) := by decide +kernel
theorem dX8_place_43 : decode cX8_place 43 = .ok (.iload_n 3, 1) := by decide +kernel
theorem dX8_place_44 : decode cX8_place 44 = .ok (.iload 4, 2) := by decide +kernel
theorem dX8_place_46 : decode cX8_place 46 = .ok (.if_icmp .gt 10, 3) := by decide +kernel
theorem dX8_place_49 : decode cX8_place 49 = .ok (.iload 4, 2) := by decide +kernel
theorem dX8_place_51 : decode cX8_place 51 = .ok (.bipush 60, 2) := by decide +kernel
theorem dX8_place_53 : decode cX8_place 53 = .ok (.if_icmp .lt 5, 3) := by decide +kernel
theorem dX8_place_56 : decode cX8_place 56 = .ok (.iconst (-1), 1) := by decide +kernel
theorem dX8_place_57 : decode cX8_place 57 = .ok (.ireturn, 1) := by decide +kernel
theorem dX8_place_58 : decode cX8_place 58 = .ok (.iload_n 3, 1) := by decide +kernel
theorem dX8_place_59 : decode cX8_place 59 = .ok (.istore 6, 2) := by decide +kernel
theorem dX8_place_61 : decode cX8_place 61 = .ok (.iload 6, 2) := by decide +kernel
theorem dX8_place_63 : decode cX8_place 63 = .ok (.iload 4, 2) := by decide +kernel
theorem dX8_place_65 : decode cX8_place 65 = .ok (.if_icmp .gt 20, 3) := by decide +kernel
theorem dX8_place_68 : decode cX8_place 68 = .ok (.aload_n 0, 1) := by decide +kernel
theorem dX8_place_69 : decode cX8_place 69 = .ok (.getfield 12, 3) := by decide +kernel
theorem dX8_place_72 : decode cX8_place 72 = .ok (.iload_n 1, 1) := by decide +kernel
theorem dX8_place_73 : decode cX8_place 73 = .ok (.iload 6, 2) := by decide +kernel
theorem dX8_place_75 : decode cX8_place 75 = .ok (.iload_n 2, 1) := by decide +kernel
theorem dX8_place_76 : decode cX8_place 76 = .ok (.invokevirtual 83, 3) := by decide +kernel
theorem dX8_place_79 : decode cX8_place 79 = .ok (.iinc 6 1, 3) := by decide +kernel
theorem dX8_place_82 : decode cX8_place 82 = .ok (.goto (-21), 3) := by decide +kernel
theorem dX8_place_85 : decode cX8_place 85 = .ok (.aload_n 0, 1) := by decide +kernel
theorem dX8_place_86 : decode cX8_place 86 = .ok (.iload_n 1, 1) := by decide +kernel
theorem dX8_place_87 : decode cX8_place 87 = .ok (.invokevirtual 87, 3) := by decide +kernel
theorem dX8_place_90 : decode cX8_place 90 = .ok (.ireturn, 1) := by decide +kernel
set_option maxRecDepth 20000 in
theorem ggX8_learner_X8_isWithin : GoodIn wsX8_learner wsX8_isWithin := goodIn_r _ [18] (by decide +kernel) (by decide +kernel)
set_option maxRecDepth 20000 in
theorem gX8_learner_X8_isWithin : GoodIn wsX8_learner (va_wsS RX8 76 yX8_isWithin wsX8_isWithin) := goodIn_app (goodIn_of _ (by decide +kernel)) ggX8_learner_X8_isWithin
set_option maxRecDepth 20000 in
theorem ggX8_learner_X8_isDay : GoodIn wsX8_learner wsX8_isDay := goodIn_r _ [21] (by decide +kernel) (by decide +kernel)
set_option maxRecDepth 20000 in
theorem gX8_learner_X8_isDay : GoodIn wsX8_learner (va_wsS RX8 91 yX8_isDay wsX8_isDay) := goodIn_app (goodIn_of _ (by decide +kernel)) ggX8_learner_X8_isDay
set_option maxRecDepth 20000 in
theorem ggX8_learner_X1_init : GoodIn wsX8_learner wsX1_init := goodIn_r _ [24, 25, 26, 27, 28, 29, 30, 31, 42, 43, 44, 45, 46, 47, 48, 49, 50, 51, 52, 53] (by decide +kernel) (by decide +kernel)
set_option maxRecDepth 20000 in
theorem gX8_learner_X1_init : GoodIn wsX8_learner (wsX1_init) := ggX8_learner_X1_init
theorem dX8_learner_0 : decode cX8_learner 0 = .ok (.iload_n 1, 1) := by decide +kernel
theorem dX8_learner_1 : decode cX8_learner 1 = .ok (.iconst 0, 1) := by decide +kernel
theorem dX8_learner_2 : decode cX8_learner 2 = .ok (.iconst 5, 1) := by decide +kernel
theorem dX8_learner_3 : decode cX8_learner 3 = .ok (.invokestatic 76, 3) := by decide +kernel
theorem dX8_learner_6 : decode cX8_learner 6 = .ok (.ifCond .eq 12, 3) := by decide +kernel
theorem dX8_learner_9 : decode cX8_learner 9 = .ok (.iload_n 2, 1) := by decide +kernel
theorem dX8_learner_10 : decode cX8_learner 10 = .ok (.iconst 0, 1) := by decide +kernel
theorem dX8_learner_11 : decode cX8_learner 11 = .ok (.iconst 3, 1) := by decide +kernel
theorem dX8_learner_12 : decode cX8_learner 12 = .ok (.invokestatic 76, 3) := by decide +kernel
theorem dX8_learner_15 : decode cX8_learner 15 = .ok (.ifCond .ne 5, 3) := by decide +kernel
theorem dX8_learner_18 : decode cX8_learner 18 = .ok (.iconst (-1), 1) := by decide +kernel
theorem dX8_learner_19 : decode cX8_learner 19 = .ok (.ireturn, 1) := by decide +kernel
theorem dX8_learner_20 : decode cX8_learner 20 = .ok (.iload_n 3, 1) := by decide +kernel
theorem dX8_learner_21 : decode cX8_learner 21 = .ok (.invokestatic 91, 3) := by decide +kernel
theorem dX8_learner_24 : decode cX8_learner 24 = .ok (.ifCond .eq 25, 3) := by decide +kernel
theorem dX8_learner_27 : decode cX8_learner 27 = .ok (.iload 4, 2) := by decide +kernel
theorem dX8_learner_29 : decode cX8_learner 29 = .ok (.invokestatic 91, 3) := by decide +kernel
theorem dX8_learner_32 : decode cX8_learner 32 = .ok (.ifCond .eq 17, 3) := by decide +kernel
theorem dX8_learner_35 : decode cX8_learner 35 = .ok (.iload 5, 2) := by decide +kernel
theorem dX8_learner_37 : decode cX8_learner 37 = .ok (.invokestatic 91, 3) := by decide +kernel
theorem dX8_learner_40 : decode cX8_learner 40 = .ok (.ifCond .eq 9, 3) := by decide +kernel
theorem dX8_learner_43 : decode cX8_learner 43 = .ok (.iload_n 3, 1) := by decide +kernel
theorem dX8_learner_44 : decode cX8_learner 44 = .ok (.iload 4, 2) := by decide +kernel
theorem dX8_learner_46 : decode cX8_learner 46 = .ok (.if_icmp .le 5, 3) := by decide +kernel
theorem dX8_learner_49 : decode cX8_learner 49 = .ok (.iconst (-1), 1) := by decide +kernel
theorem dX8_learner_50 : decode cX8_learner 50 = .ok (.ireturn, 1) := by decide +kernel
theorem dX8_learner_51 : decode cX8_learner 51 = .ok (.aload_n 0, 1) := by decide +kernel
theorem dX8_learner_52 : decode cX8_learner 52 = .ok (.getfield 64, 3) := by decide +kernel
theorem dX8_learner_55 : decode cX8_learner 55 = .ok (.bipush 60, 2) := by decide +kernel
theorem dX8_learner_57 : decode cX8_learner 57 = .ok (.if_icmp .lt 5, 3) := by decide +kernel
theorem dX8_learner_60 : decode cX8_learner 60 = .ok (.iconst (-1), 1) := by decide +kernel
theorem dX8_learner_61 : decode cX8_learner 61 = .ok (.ireturn, 1) := by decide +kernel
theorem dX8_learner_62 : decode cX8_learner 62 = .ok (.new 16, 3) := by decide +kernel
theorem dX8_learner_65 : decode cX8_learner 65 = .ok (.dup, 1) := by decide +kernel
theorem dX8_learner_66 : decode cX8_learner 66 = .ok (.aload_n 0, 1) := by decide +kernel
theorem dX8_learner_67 : decode cX8_learner 67 = .ok (.getfield 64, 3) := by decide +kernel
theorem dX8_learner_70 : decode cX8_learner 70 = .ok (.aload_n 0, 1) := by decide +kernel
theorem dX8_learner_71 : decode cX8_learner 71 = .ok (.getfield 12, 3) := by decide +kernel
theorem dX8_learner_74 : decode cX8_learner 74 = .ok (.getfield 80, 3) := by decide +kernel
theorem dX8_learner_77 : decode cX8_learner 77 = .ok (.invokespecial 94, 3) := by decide +kernel
theorem dX8_learner_80 : decode cX8_learner 80 = .ok (.astore 7, 2) := by decide +kernel
theorem dX8_learner_82 : decode cX8_learner 82 = .ok (.aload 7, 2) := by decide +kernel
theorem dX8_learner_84 : decode cX8_learner 84 = .ok (.iload_n 1, 1) := by decide +kernel
theorem dX8_learner_85 : decode cX8_learner 85 = .ok (.putfield 97, 3) := by decide +kernel
theorem dX8_learner_88 : decode cX8_learner 88 = .ok (.aload 7, 2) := by decide +kernel
theorem dX8_learner_90 : decode cX8_learner 90 = .ok (.iload_n 2, 1) := by decide +kernel
theorem dX8_learner_91 : decode cX8_learner 91 = .ok (.putfield 100, 3) := by decide +kernel
theorem dX8_learner_94 : decode cX8_learner 94 = .ok (.aload 7, 2) := by decide +kernel
theorem dX8_learner_96 : decode cX8_learner 96 = .ok (.iload_n 3, 1) := by decide +kernel
theorem dX8_learner_97 : decode cX8_learner 97 = .ok (.putfield 103, 3) := by decide +kernel
theorem dX8_learner_100 : decode cX8_learner 100 = .ok (.aload 7, 2) := by decide +kernel
theorem dX8_learner_102 : decode cX8_learner 102 = .ok (.iload 4, 2) := by decide +kernel
theorem dX8_learner_104 : decode cX8_learner 104 = .ok (.putfield 106, 3) := by decide +kernel
theorem dX8_learner_107 : decode cX8_learner 107 = .ok (.aload 7, 2) := by decide +kernel
theorem dX8_learner_109 : decode cX8_learner 109 = .ok (.iload 5, 2) := by decide +kernel
theorem dX8_learner_111 : decode cX8_learner 111 = .ok (.putfield 109, 3) := by decide +kernel
theorem dX8_learner_114 : decode cX8_learner 114 = .ok (.aload 7, 2) := by decide +kernel
theorem dX8_learner_116 : decode cX8_learner 116 = .ok (.iload 6, 2) := by decide +kernel
theorem dX8_learner_118 : decode cX8_learner 118 = .ok (.putfield 112, 3) := by decide +kernel
theorem dX8_learner_121 : decode cX8_learner 121 = .ok (.aload_n 0, 1) := by decide +kernel
theorem dX8_learner_122 : decode cX8_learner 122 = .ok (.getfield 18, 3) := by decide +kernel
theorem dX8_learner_125 : decode cX8_learner 125 = .ok (.aload_n 0, 1) := by decide +kernel
theorem dX8_learner_126 : decode cX8_learner 126 = .ok (.getfield 64, 3) := by decide +kernel
theorem dX8_learner_129 : decode cX8_learner 129 = .ok (.aload 7, 2) := by decide +kernel
theorem dX8_learner_131 : decode cX8_learner 131 = .ok (.aastore, 1) := by decide +kernel
theorem dX8_learner_132 : decode cX8_learner 132 = .ok (.aload_n 0, 1) := by decide +kernel
theorem dX8_learner_133 : decode cX8_learner 133 = .ok (.dup, 1) := by decide +kernel
theorem dX8_learner_134 : decode cX8_learner 134 = .ok (.getfield 64, 3) := by decide +kernel
theorem dX8_learner_137 : decode cX8_learner 137 = .ok (.iconst 1, 1) := by decide +kernel
theorem dX8_learner_138 : decode cX8_learner 138 = .ok (.iadd, 1) := by decide +kernel
theorem dX8_learner_139 : decode cX8_learner 139 = .ok (.putfield 64, 3) := by decide +kernel
theorem dX8_learner_142 : decode cX8_learner 142 = .ok (.aload 7, 2) := by decide +kernel
theorem dX8_learner_144 : decode cX8_learner 144 = .ok (.getfield 116, 3) := by decide +kernel
theorem dX8_learner_147 : decode cX8_learner 147 = .ok (.ireturn, 1) := by decide +kernel
set_option maxRecDepth 20000 in
theorem ggX8_feed_X4_addEight : GoodIn wsX8_feed wsX4_addEight := goodIn_r _ [7, 8, 9, 10, 11, 12, 23, 24] (by decide +kernel) (by decide +kernel)
set_option maxRecDepth 20000 in
theorem gX8_feed_X4_addEight : GoodIn wsX8_feed (wsV RX8 119 RX4 yX4_addEight wsX4_addEight) := goodIn_app (goodIn_of _ (by decide +kernel)) ggX8_feed_X4_addEight
theorem dX8_feed_0 : decode cX8_feed 0 = .ok (.aload_n 0, 1) := by decide +kernel
theorem dX8_feed_1 : decode cX8_feed 1 = .ok (.getfield 38, 3) := by decide +kernel
theorem dX8_feed_4 : decode cX8_feed 4 = .ok (.lload_n 1, 1) := by decide +kernel
theorem dX8_feed_5 : decode cX8_feed 5 = .ok (.invokevirtual 119, 3) := by decide +kernel
theorem dX8_feed_8 : decode cX8_feed 8 = .ok (.aload_n 0, 1) := by decide +kernel
theorem dX8_feed_9 : decode cX8_feed 9 = .ok (.getfield 38, 3) := by decide +kernel
theorem dX8_feed_12 : decode cX8_feed 12 = .ok (.lload_n 3, 1) := by decide +kernel
theorem dX8_feed_13 : decode cX8_feed 13 = .ok (.invokevirtual 119, 3) := by decide +kernel
theorem dX8_feed_16 : decode cX8_feed 16 = .ok (.aload_n 0, 1) := by decide +kernel
theorem dX8_feed_17 : decode cX8_feed 17 = .ok (.getfield 38, 3) := by decide +kernel
theorem dX8_feed_20 : decode cX8_feed 20 = .ok (.lload 5, 2) := by decide +kernel
theorem dX8_feed_22 : decode cX8_feed 22 = .ok (.invokevirtual 119, 3) := by decide +kernel
theorem dX8_feed_25 : decode cX8_feed 25 = .ok (.aload_n 0, 1) := by decide +kernel
theorem dX8_feed_26 : decode cX8_feed 26 = .ok (.getfield 38, 3) := by decide +kernel
theorem dX8_feed_29 : decode cX8_feed 29 = .ok (.getfield 123, 3) := by decide +kernel
theorem dX8_feed_32 : decode cX8_feed 32 = .ok (.ireturn, 1) := by decide +kernel
set_option maxRecDepth 20000 in
theorem ggX8_text_X6_read : GoodIn wsX8_text wsX6_read := goodIn_r _ [10, 11, 12, 13, 14, 15, 16, 17, 18, 19, 20, 21, 22, 23, 24, 25, 26, 27, 9, 28, 29, 30, 31, 32, 33, 34, 35, 36, 37, 38, 39, 40, 41, 42, 43, 44, 45, 46, 47, 48, 49, 50, 51, 52, 53, 54, 55, 56, 57, 58, 59, 60, 61, 62, 63, 64, 65, 66, 67, 68, 69, 70, 71, 72, 73, 74, 75, 76, 77, 78, 79, 80, 81, 82, 83, 84, 85, 86, 87, 88, 89, 90, 91, 92, 93, 94, 95, 96, 97, 98, 99, 100, 101, 102, 103, 104, 105, 106, 107, 108, 109, 110, 111, 112, 113, 114, 115, 116, 117, 118, 119, 120, 121, 122, 123, 124, 125, 126, 127, 128, 129, 130, 131, 132, 133, 134, 135, 136, 137, 138, 139, 140, 141, 142, 143, 144, 145, 146, 147, 148, 149, 150, 151, 152, 153, 154, 155, 156, 157, 158, 159, 160, 171, 172, 173, 174, 175, 176, 177, 178, 179, 180, 181, 182, 183, 184, 185, 186] (by decide +kernel) (by decide +kernel)
set_option maxRecDepth 20000 in
theorem gX8_text_X6_read : GoodIn wsX8_text (wsV RX8 126 RX6 yX6_read wsX6_read) := goodIn_app (goodIn_of _ (by decide +kernel)) ggX8_text_X6_read
theorem dX8_text_0 : decode cX8_text 0 = .ok (.aload_n 0, 1) := by decide +kernel
theorem dX8_text_1 : decode cX8_text 1 = .ok (.getfield 45, 3) := by decide +kernel
theorem dX8_text_4 : decode cX8_text 4 = .ok (.aload_n 0, 1) := by decide +kernel
theorem dX8_text_5 : decode cX8_text 5 = .ok (.getfield 38, 3) := by decide +kernel
theorem dX8_text_8 : decode cX8_text 8 = .ok (.aload_n 0, 1) := by decide +kernel
theorem dX8_text_9 : decode cX8_text 9 = .ok (.getfield 61, 3) := by decide +kernel
theorem dX8_text_12 : decode cX8_text 12 = .ok (.invokevirtual 126, 3) := by decide +kernel
theorem dX8_text_15 : decode cX8_text 15 = .ok (.istore_n 1, 1) := by decide +kernel
theorem dX8_text_16 : decode cX8_text 16 = .ok (.aload_n 0, 1) := by decide +kernel
theorem dX8_text_17 : decode cX8_text 17 = .ok (.getfield 38, 3) := by decide +kernel
theorem dX8_text_20 : decode cX8_text 20 = .ok (.iconst 0, 1) := by decide +kernel
theorem dX8_text_21 : decode cX8_text 21 = .ok (.putfield 123, 3) := by decide +kernel
theorem dX8_text_24 : decode cX8_text 24 = .ok (.iload_n 1, 1) := by decide +kernel
theorem dX8_text_25 : decode cX8_text 25 = .ok (.ifCond .ne 21, 3) := by decide +kernel
theorem dX8_text_28 : decode cX8_text 28 = .ok (.aload_n 0, 1) := by decide +kernel
theorem dX8_text_29 : decode cX8_text 29 = .ok (.getfield 57, 3) := by decide +kernel
theorem dX8_text_32 : decode cX8_text 32 = .ok (.astore_n 2, 1) := by decide +kernel
theorem dX8_text_33 : decode cX8_text 33 = .ok (.aload_n 0, 1) := by decide +kernel
theorem dX8_text_34 : decode cX8_text 34 = .ok (.aload_n 0, 1) := by decide +kernel
theorem dX8_text_35 : decode cX8_text 35 = .ok (.getfield 61, 3) := by decide +kernel
theorem dX8_text_38 : decode cX8_text 38 = .ok (.putfield 57, 3) := by decide +kernel
theorem dX8_text_41 : decode cX8_text 41 = .ok (.aload_n 0, 1) := by decide +kernel
theorem dX8_text_42 : decode cX8_text 42 = .ok (.aload_n 2, 1) := by decide +kernel
theorem dX8_text_43 : decode cX8_text 43 = .ok (.putfield 61, 3) := by decide +kernel
theorem dX8_text_46 : decode cX8_text 46 = .ok (.iload_n 1, 1) := by decide +kernel
theorem dX8_text_47 : decode cX8_text 47 = .ok (.ireturn, 1) := by decide +kernel
set_option maxRecDepth 20000 in
theorem ggX8_deal_X8_lineUpWaiting : GoodIn wsX8_deal wsX8_lineUpWaiting := goodIn_r _ [5, 6, 7, 8, 9, 10, 11, 12, 13, 14, 15, 16, 17, 18, 4, 19, 20, 21, 22, 23, 24, 25, 26, 27, 28, 29, 30, 31, 32, 33, 34, 35, 36, 37, 38, 39, 40, 41, 42, 43, 44, 45, 46, 47, 48, 49, 50, 51, 120, 121, 122, 123, 124, 125, 126, 127, 128, 129, 130, 131, 132, 133, 134, 135, 136, 137, 138, 139, 140, 141, 142, 143, 144, 145, 146, 147, 148, 149, 150, 151, 152, 153, 154, 155, 156, 157, 158, 159] (by decide +kernel) (by decide +kernel)
set_option maxRecDepth 20000 in
theorem gX8_deal_X8_lineUpWaiting : GoodIn wsX8_deal (wsV RX8 130 RX8 yX8_lineUpWaiting wsX8_lineUpWaiting) := goodIn_app (goodIn_of _ (by decide +kernel)) ggX8_deal_X8_lineUpWaiting
set_option maxRecDepth 20000 in
theorem ggX8_deal_X8_dealLine : GoodIn wsX8_deal wsX8_dealLine := goodIn_r _ [55, 6, 56, 8, 57, 23, 22, 58, 59, 60, 61, 62, 63, 27, 64, 65, 66, 67, 68, 69, 70, 71, 72, 73, 74, 75, 76, 77, 78, 79, 80, 81, 82, 83, 84, 85, 4, 86, 87, 88, 89, 90, 91, 92, 93, 94, 95, 96, 97, 98, 99, 100, 101, 102, 103, 104, 105, 106, 107, 108, 109, 110, 111, 112, 113, 114, 115, 9, 116, 117, 118, 119, 120, 121, 122, 123, 124, 125, 126, 127, 128, 129, 142, 143, 144, 130, 131, 132, 133, 134, 135, 136, 137, 138, 139, 140, 141, 145, 146, 147, 148, 149, 150, 151, 152, 153] (by decide +kernel) (by decide +kernel)
set_option maxRecDepth 20000 in
theorem gX8_deal_X8_dealLine : GoodIn wsX8_deal (wsV RX8 133 RX8 yX8_dealLine wsX8_dealLine) := goodIn_app (goodIn_of _ (by decide +kernel)) ggX8_deal_X8_dealLine
theorem dX8_deal_0 : decode cX8_deal 0 = .ok (.aload_n 0, 1) := by decide +kernel
theorem dX8_deal_1 : decode cX8_deal 1 = .ok (.invokevirtual 130, 3) := by decide +kernel
theorem dX8_deal_4 : decode cX8_deal 4 = .ok (.aload_n 0, 1) := by decide +kernel
theorem dX8_deal_5 : decode cX8_deal 5 = .ok (.invokevirtual 133, 3) := by decide +kernel
theorem dX8_deal_8 : decode cX8_deal 8 = .ok (.ireturn, 1) := by decide +kernel
set_option maxRecDepth 20000 in
theorem ggX8_cancel_X8_find : GoodIn wsX8_cancel wsX8_find := goodIn_r _ [7, 8, 9, 10, 11, 6, 12, 137, 138, 139, 140, 141, 142, 143, 144, 145, 146] (by decide +kernel) (by decide +kernel)
set_option maxRecDepth 20000 in
theorem gX8_cancel_X8_find : GoodIn wsX8_cancel (wsV RX8 136 RX8 yX8_find wsX8_find) := goodIn_app (goodIn_of _ (by decide +kernel)) ggX8_cancel_X8_find
set_option maxRecDepth 20000 in
theorem ggX8_cancel_X8_release : GoodIn wsX8_cancel wsX8_release := goodIn_r _ [16, 17, 2, 1, 18, 19, 20, 21, 22, 23, 24, 25, 26, 27, 137, 138, 139, 140, 141, 142, 143, 144, 145, 146, 125, 126, 127, 128, 129, 130, 131, 132, 133, 134, 135, 136, 147, 148, 149, 150, 151, 152, 153, 154, 155] (by decide +kernel) (by decide +kernel)
set_option maxRecDepth 20000 in
theorem gX8_cancel_X8_release : GoodIn wsX8_cancel (wsV RX8 146 RX8 yX8_release wsX8_release) := goodIn_app (goodIn_of _ (by decide +kernel)) ggX8_cancel_X8_release
set_option maxRecDepth 20000 in
theorem ggX8_cancel_X8_moveUp : GoodIn wsX8_cancel wsX8_moveUp := goodIn_r _ [31, 17, 2, 32, 33, 34, 35, 6, 36, 37, 8, 9, 1, 38, 39, 40, 41, 42, 43, 44, 45, 46, 47, 48, 49, 50, 51, 52, 53, 54, 55, 56, 57, 58, 59, 60, 61, 62, 63, 64, 65, 66, 67, 68, 69, 70, 71, 72, 73, 74, 75, 76, 77, 78, 79, 80, 81, 82, 21, 83, 23, 84, 85, 24, 25, 26, 27, 86, 87, 88, 89, 90, 91, 92, 93, 94, 95, 96, 97, 98, 99, 100, 101, 102, 103, 104, 105, 106, 107, 108, 109, 110, 111, 112, 113, 114, 115, 116, 117, 118, 119, 13, 14, 15, 16, 18, 19, 20, 22, 120, 121, 122, 123, 124, 137, 138, 139, 140, 141, 142, 143, 144, 145, 146, 125, 126, 127, 128, 129, 130, 131, 132, 133, 134, 135, 136, 156, 157, 158, 147, 148, 149, 150, 151, 152, 153, 154, 155, 159, 160, 161, 162, 163, 164] (by decide +kernel) (by decide +kernel)
set_option maxRecDepth 20000 in
theorem gX8_cancel_X8_moveUp : GoodIn wsX8_cancel (wsV RX8 150 RX8 yX8_moveUp wsX8_moveUp) := goodIn_app (goodIn_of _ (by decide +kernel)) ggX8_cancel_X8_moveUp
theorem dX8_cancel_0 : decode cX8_cancel 0 = .ok (.aload_n 0, 1) := by decide +kernel
theorem dX8_cancel_1 : decode cX8_cancel 1 = .ok (.iload_n 1, 1) := by decide +kernel
theorem dX8_cancel_2 : decode cX8_cancel 2 = .ok (.invokevirtual 136, 3) := by decide +kernel
theorem dX8_cancel_5 : decode cX8_cancel 5 = .ok (.astore_n 2, 1) := by decide +kernel
theorem dX8_cancel_6 : decode cX8_cancel 6 = .ok (.aload_n 2, 1) := by decide +kernel
theorem dX8_cancel_7 : decode cX8_cancel 7 = .ok (.ifnull 11, 3) := by decide +kernel
theorem dX8_cancel_10 : decode cX8_cancel 10 = .ok (.aload_n 2, 1) := by decide +kernel
theorem dX8_cancel_11 : decode cX8_cancel 11 = .ok (.getfield 140, 3) := by decide +kernel
theorem dX8_cancel_14 : decode cX8_cancel 14 = .ok (.iconst 1, 1) := by decide +kernel
theorem dX8_cancel_15 : decode cX8_cancel 15 = .ok (.if_icmp .eq 5, 3) := by decide +kernel
theorem dX8_cancel_18 : decode cX8_cancel 18 = .ok (.iconst (-1), 1) := by decide +kernel
theorem dX8_cancel_19 : decode cX8_cancel 19 = .ok (.ireturn, 1) := by decide +kernel
theorem dX8_cancel_20 : decode cX8_cancel 20 = .ok (.aload_n 2, 1) := by decide +kernel
theorem dX8_cancel_21 : decode cX8_cancel 21 = .ok (.getfield 143, 3) := by decide +kernel
theorem dX8_cancel_24 : decode cX8_cancel 24 = .ok (.istore_n 3, 1) := by decide +kernel
theorem dX8_cancel_25 : decode cX8_cancel 25 = .ok (.aload_n 0, 1) := by decide +kernel
theorem dX8_cancel_26 : decode cX8_cancel 26 = .ok (.aload_n 2, 1) := by decide +kernel
theorem dX8_cancel_27 : decode cX8_cancel 27 = .ok (.invokevirtual 146, 3) := by decide +kernel
theorem dX8_cancel_30 : decode cX8_cancel 30 = .ok (.aload_n 0, 1) := by decide +kernel
theorem dX8_cancel_31 : decode cX8_cancel 31 = .ok (.iload_n 3, 1) := by decide +kernel
theorem dX8_cancel_32 : decode cX8_cancel 32 = .ok (.invokevirtual 150, 3) := by decide +kernel
theorem dX8_cancel_35 : decode cX8_cancel 35 = .ok (.ireturn, 1) := by decide +kernel
set_option maxRecDepth 20000 in
theorem ggX8_leave_X8_find : GoodIn wsX8_leave wsX8_find := goodIn_r _ [7, 8, 9, 10, 11, 6, 12, 137, 138, 139, 140, 141, 142, 143, 144, 145, 146] (by decide +kernel) (by decide +kernel)
set_option maxRecDepth 20000 in
theorem gX8_leave_X8_find : GoodIn wsX8_leave (wsV RX8 136 RX8 yX8_find wsX8_find) := goodIn_app (goodIn_of _ (by decide +kernel)) ggX8_leave_X8_find
set_option maxRecDepth 20000 in
theorem ggX8_leave_X8_release : GoodIn wsX8_leave wsX8_release := goodIn_r _ [16, 17, 2, 1, 18, 19, 20, 21, 22, 23, 24, 25, 26, 27, 137, 138, 139, 140, 141, 142, 143, 144, 145, 146, 125, 126, 127, 128, 129, 130, 131, 132, 133, 134, 135, 136, 147, 148, 149, 150, 151, 152, 153, 154, 155] (by decide +kernel) (by decide +kernel)
set_option maxRecDepth 20000 in
theorem gX8_leave_X8_release : GoodIn wsX8_leave (wsV RX8 146 RX8 yX8_release wsX8_release) := goodIn_app (goodIn_of _ (by decide +kernel)) ggX8_leave_X8_release
set_option maxRecDepth 20000 in
theorem ggX8_leave_X8_moveUp : GoodIn wsX8_leave wsX8_moveUp := goodIn_r _ [31, 17, 2, 32, 33, 34, 35, 6, 36, 37, 8, 9, 1, 38, 39, 40, 41, 42, 43, 44, 45, 46, 47, 48, 49, 50, 51, 52, 53, 54, 55, 56, 57, 58, 59, 60, 61, 62, 63, 64, 65, 66, 67, 68, 69, 70, 71, 72, 73, 74, 75, 76, 77, 78, 79, 80, 81, 82, 21, 83, 23, 84, 85, 24, 25, 26, 27, 86, 87, 88, 89, 90, 91, 92, 93, 94, 95, 96, 97, 98, 99, 100, 101, 102, 103, 104, 105, 106, 107, 108, 109, 110, 111, 112, 113, 114, 115, 116, 117, 118, 119, 13, 14, 15, 16, 18, 19, 20, 22, 120, 121, 122, 123, 124, 137, 138, 139, 140, 141, 142, 143, 144, 145, 146, 125, 126, 127, 128, 129, 130, 131, 132, 133, 134, 135, 136, 156, 157, 158, 147, 148, 149, 150, 151, 152, 153, 154, 155, 159, 160, 161, 162, 163, 164] (by decide +kernel) (by decide +kernel)
set_option maxRecDepth 20000 in
theorem gX8_leave_X8_moveUp : GoodIn wsX8_leave (wsV RX8 150 RX8 yX8_moveUp wsX8_moveUp) := goodIn_app (goodIn_of _ (by decide +kernel)) ggX8_leave_X8_moveUp
theorem dX8_leave_0 : decode cX8_leave 0 = .ok (.aload_n 0, 1) := by decide +kernel
theorem dX8_leave_1 : decode cX8_leave 1 = .ok (.iload_n 1, 1) := by decide +kernel
theorem dX8_leave_2 : decode cX8_leave 2 = .ok (.invokevirtual 136, 3) := by decide +kernel
theorem dX8_leave_5 : decode cX8_leave 5 = .ok (.astore_n 2, 1) := by decide +kernel
theorem dX8_leave_6 : decode cX8_leave 6 = .ok (.aload_n 2, 1) := by decide +kernel
theorem dX8_leave_7 : decode cX8_leave 7 = .ok (.ifnull 18, 3) := by decide +kernel
theorem dX8_leave_10 : decode cX8_leave 10 = .ok (.aload_n 2, 1) := by decide +kernel
theorem dX8_leave_11 : decode cX8_leave 11 = .ok (.getfield 140, 3) := by decide +kernel
theorem dX8_leave_14 : decode cX8_leave 14 = .ok (.ifCond .eq 13, 3) := by decide +kernel
theorem dX8_leave_17 : decode cX8_leave 17 = .ok (.aload_n 2, 1) := by decide +kernel
theorem dX8_leave_18 : decode cX8_leave 18 = .ok (.getfield 140, 3) := by decide +kernel
theorem dX8_leave_21 : decode cX8_leave 21 = .ok (.iconst 1, 1) := by decide +kernel
theorem dX8_leave_22 : decode cX8_leave 22 = .ok (.if_icmp .eq 5, 3) := by decide +kernel
theorem dX8_leave_25 : decode cX8_leave 25 = .ok (.iconst 0, 1) := by decide +kernel
theorem dX8_leave_26 : decode cX8_leave 26 = .ok (.ireturn, 1) := by decide +kernel
theorem dX8_leave_27 : decode cX8_leave 27 = .ok (.aload_n 2, 1) := by decide +kernel
theorem dX8_leave_28 : decode cX8_leave 28 = .ok (.getfield 143, 3) := by decide +kernel
theorem dX8_leave_31 : decode cX8_leave 31 = .ok (.istore_n 3, 1) := by decide +kernel
theorem dX8_leave_32 : decode cX8_leave 32 = .ok (.aload_n 2, 1) := by decide +kernel
theorem dX8_leave_33 : decode cX8_leave 33 = .ok (.getfield 140, 3) := by decide +kernel
theorem dX8_leave_36 : decode cX8_leave 36 = .ok (.iconst 1, 1) := by decide +kernel
theorem dX8_leave_37 : decode cX8_leave 37 = .ok (.if_icmp .ne 8, 3) := by decide +kernel
theorem dX8_leave_40 : decode cX8_leave 40 = .ok (.aload_n 0, 1) := by decide +kernel
theorem dX8_leave_41 : decode cX8_leave 41 = .ok (.aload_n 2, 1) := by decide +kernel
theorem dX8_leave_42 : decode cX8_leave 42 = .ok (.invokevirtual 146, 3) := by decide +kernel
theorem dX8_leave_45 : decode cX8_leave 45 = .ok (.aload_n 2, 1) := by decide +kernel
theorem dX8_leave_46 : decode cX8_leave 46 = .ok (.iconst 3, 1) := by decide +kernel
theorem dX8_leave_47 : decode cX8_leave 47 = .ok (.putfield 140, 3) := by decide +kernel
theorem dX8_leave_50 : decode cX8_leave 50 = .ok (.iload_n 3, 1) := by decide +kernel
theorem dX8_leave_51 : decode cX8_leave 51 = .ok (.iconst (-1), 1) := by decide +kernel
theorem dX8_leave_52 : decode cX8_leave 52 = .ok (.if_icmp .eq 9, 3) := by decide +kernel
theorem dX8_leave_55 : decode cX8_leave 55 = .ok (.aload_n 0, 1) := by decide +kernel
theorem dX8_leave_56 : decode cX8_leave 56 = .ok (.iload_n 3, 1) := by decide +kernel
theorem dX8_leave_57 : decode cX8_leave 57 = .ok (.invokevirtual 150, 3) := by decide +kernel
theorem dX8_leave_60 : decode cX8_leave 60 = .ok (.pop, 1) := by decide +kernel
theorem dX8_leave_61 : decode cX8_leave 61 = .ok (.iconst 1, 1) := by decide +kernel
theorem dX8_leave_62 : decode cX8_leave 62 = .ok (.ireturn, 1) := by decide +kernel
set_option maxRecDepth 20000 in
theorem ggX8_shut_X8_isDay : GoodIn wsX8_shut wsX8_isDay := goodIn_r _ [12] (by decide +kernel) (by decide +kernel)
set_option maxRecDepth 20000 in
theorem gX8_shut_X8_isDay : GoodIn wsX8_shut (va_wsS RX8 91 yX8_isDay wsX8_isDay) := goodIn_app (goodIn_of _ (by decide +kernel)) ggX8_shut_X8_isDay
set_option maxRecDepth 20000 in
theorem ggX8_shut_X0_isShut : GoodIn wsX8_shut wsX0_isShut := goodIn_r _ [17, 18, 10, 11, 12, 142, 143, 144, 145, 146, 147, 148, 149, 150] (by decide +kernel) (by decide +kernel)
set_option maxRecDepth 20000 in
theorem gX8_shut_X0_isShut : GoodIn wsX8_shut (wsV RX8 153 RX0 yX0_isShut wsX0_isShut) := goodIn_app (goodIn_of _ (by decide +kernel)) ggX8_shut_X0_isShut
set_option maxRecDepth 20000 in
theorem ggX8_shut_X0_shutDay : GoodIn wsX8_shut wsX0_shutDay := goodIn_r _ [22, 18, 10, 11, 12, 142, 143, 144, 145, 146, 147, 148, 149, 150] (by decide +kernel) (by decide +kernel)
set_option maxRecDepth 20000 in
theorem gX8_shut_X0_shutDay : GoodIn wsX8_shut (wsV RX8 156 RX0 yX0_shutDay wsX0_shutDay) := goodIn_app (goodIn_of _ (by decide +kernel)) ggX8_shut_X0_shutDay
set_option maxRecDepth 20000 in
theorem ggX8_shut_X2_clear : GoodIn wsX8_shut wsX2_clear := goodIn_r _ [27, 28, 163, 164, 165] (by decide +kernel) (by decide +kernel)
set_option maxRecDepth 20000 in
theorem gX8_shut_X2_clear : GoodIn wsX8_shut (wsV RX8 160 RX2 yX2_clear wsX2_clear) := goodIn_app (goodIn_of _ (by decide +kernel)) ggX8_shut_X2_clear
set_option maxRecDepth 20000 in
theorem ggX8_shut_X8_dayOf : GoodIn wsX8_shut wsX8_dayOf := goodIn_r _ [31] (by decide +kernel) (by decide +kernel)
set_option maxRecDepth 20000 in
theorem gX8_shut_X8_dayOf : GoodIn wsX8_shut (va_wsS RX8 163 yX8_dayOf wsX8_dayOf) := goodIn_app (goodIn_of _ (by decide +kernel)) ggX8_shut_X8_dayOf
set_option maxRecDepth 20000 in
theorem ggX8_shut_X8_release : GoodIn wsX8_shut wsX8_release := goodIn_r _ [35, 1, 7, 6, 36, 37, 38, 16, 39, 40, 41, 42, 43, 44, 132, 133, 134, 135, 136, 137, 138, 139, 140, 141, 151, 152, 153, 154, 155, 156, 157, 158, 159, 160, 161, 162, 142, 143, 144, 145, 146, 147, 148, 149, 150] (by decide +kernel) (by decide +kernel)
set_option maxRecDepth 20000 in
theorem gX8_shut_X8_release : GoodIn wsX8_shut (wsV RX8 146 RX8 yX8_release wsX8_release) := goodIn_app (goodIn_of _ (by decide +kernel)) ggX8_shut_X8_release
set_option maxRecDepth 20000 in
theorem ggX8_shut_X8_rankOf : GoodIn wsX8_shut wsX8_rankOf := goodIn_r _ [48, 49, 50, 51, 1, 2, 52, 53, 54, 55, 56, 57, 58, 59, 60, 61, 62, 63, 64, 65, 66, 67, 68, 69, 70, 71, 72, 132, 133, 134, 135, 136, 137, 138, 139, 140, 141, 151, 152, 153, 154, 155, 156, 157, 158, 159, 160, 161, 162, 142, 143, 144, 145, 146, 147, 148, 149, 150, 166, 167, 168, 169, 170, 171] (by decide +kernel) (by decide +kernel)
set_option maxRecDepth 20000 in
theorem gX8_shut_X8_rankOf : GoodIn wsX8_shut (wsV RX8 166 RX8 yX8_rankOf wsX8_rankOf) := goodIn_app (goodIn_of _ (by decide +kernel)) ggX8_shut_X8_rankOf
set_option maxRecDepth 20000 in
theorem ggX8_shut_X2_add : GoodIn wsX8_shut wsX2_add := goodIn_r _ [76, 28, 77, 78, 163, 164, 165] (by decide +kernel) (by decide +kernel)
set_option maxRecDepth 20000 in
theorem gX8_shut_X2_add : GoodIn wsX8_shut (wsV RX8 170 RX2 yX2_add wsX2_add) := goodIn_app (goodIn_of _ (by decide +kernel)) ggX8_shut_X2_add
set_option maxRecDepth 20000 in
theorem ggX8_shut_X8_dealLine : GoodIn wsX8_shut wsX8_dealLine := goodIn_r _ [82, 3, 8, 5, 83, 1, 51, 84, 85, 86, 87, 88, 89, 54, 90, 91, 92, 16, 93, 94, 95, 96, 97, 98, 99, 100, 101, 102, 103, 104, 105, 106, 107, 108, 109, 110, 11, 111, 112, 113, 114, 115, 40, 18, 41, 42, 43, 44, 30, 31, 116, 117, 118, 119, 120, 121, 122, 123, 124, 125, 126, 127, 128, 129, 130, 131, 7, 6, 36, 37, 38, 39, 132, 133, 134, 135, 136, 137, 138, 139, 140, 141, 163, 164, 165, 151, 152, 153, 154, 155, 156, 157, 158, 159, 160, 161, 162, 142, 143, 144, 145, 146, 147, 148, 149, 150] (by decide +kernel) (by decide +kernel)
set_option maxRecDepth 20000 in
theorem gX8_shut_X8_dealLine : GoodIn wsX8_shut (wsV RX8 133 RX8 yX8_dealLine wsX8_dealLine) := goodIn_app (goodIn_of _ (by decide +kernel)) ggX8_shut_X8_dealLine
theorem dX8_shut_0 : decode cX8_shut 0 = .ok (.iload_n 1, 1) := by decide +kernel
theorem dX8_shut_1 : decode cX8_shut 1 = .ok (.invokestatic 91, 3) := by decide +kernel
theorem dX8_shut_4 : decode cX8_shut 4 = .ok (.ifCond .eq 25, 3) := by decide +kernel
theorem dX8_shut_7 : decode cX8_shut 7 = .ok (.iload_n 1, 1) := by decide +kernel
theorem dX8_shut_8 : decode cX8_shut 8 = .ok (.aload_n 0, 1) := by decide +kernel
theorem dX8_shut_9 : decode cX8_shut 9 = .ok (.getfield 12, 3) := by decide +kernel
theorem dX8_shut_12 : decode cX8_shut 12 = .ok (.getfield 80, 3) := by decide +kernel
theorem dX8_shut_15 : decode cX8_shut 15 = .ok (.if_icmp .le 14, 3) := by decide +kernel
theorem dX8_shut_18 : decode cX8_shut 18 = .ok (.aload_n 0, 1) := by decide +kernel
theorem dX8_shut_19 : decode cX8_shut 19 = .ok (.getfield 12, 3) := by decide +kernel
theorem dX8_shut_22 : decode cX8_shut 22 = .ok (.iload_n 1, 1) := by decide +kernel
theorem dX8_shut_23 : decode cX8_shut 23 = .ok (.invokevirtual 153, 3) := by decide +kernel
theorem dX8_shut_26 : decode cX8_shut 26 = .ok (.ifCond .eq 5, 3) := by decide +kernel
theorem dX8_shut_29 : decode cX8_shut 29 = .ok (.iconst (-1), 1) := by decide +kernel
theorem dX8_shut_30 : decode cX8_shut 30 = .ok (.ireturn, 1) := by decide +kernel
theorem dX8_shut_31 : decode cX8_shut 31 = .ok (.aload_n 0, 1) := by decide +kernel
theorem dX8_shut_32 : decode cX8_shut 32 = .ok (.getfield 12, 3) := by decide +kernel
theorem dX8_shut_35 : decode cX8_shut 35 = .ok (.iload_n 1, 1) := by decide +kernel
theorem dX8_shut_36 : decode cX8_shut 36 = .ok (.invokevirtual 156, 3) := by decide +kernel
theorem dX8_shut_39 : decode cX8_shut 39 = .ok (.aload_n 0, 1) := by decide +kernel
theorem dX8_shut_40 : decode cX8_shut 40 = .ok (.getfield 25, 3) := by decide +kernel
theorem dX8_shut_43 : decode cX8_shut 43 = .ok (.invokevirtual 160, 3) := by decide +kernel
theorem dX8_shut_46 : decode cX8_shut 46 = .ok (.iconst 0, 1) := by decide +kernel
theorem dX8_shut_47 : decode cX8_shut 47 = .ok (.istore_n 2, 1) := by decide +kernel
theorem dX8_shut_48 : decode cX8_shut 48 = .ok (.iload_n 2, 1) := by decide +kernel
theorem dX8_shut_49 : decode cX8_shut 49 = .ok (.aload_n 0, 1) := by decide +kernel
theorem dX8_shut_50 : decode cX8_shut 50 = .ok (.getfield 64, 3) := by decide +kernel
theorem dX8_shut_53 : decode cX8_shut 53 = .ok (.if_icmp .ge 53, 3) := by decide +kernel
theorem dX8_shut_56 : decode cX8_shut 56 = .ok (.aload_n 0, 1) := by decide +kernel
theorem dX8_shut_57 : decode cX8_shut 57 = .ok (.getfield 18, 3) := by decide +kernel
theorem dX8_shut_60 : decode cX8_shut 60 = .ok (.iload_n 2, 1) := by decide +kernel
theorem dX8_shut_61 : decode cX8_shut 61 = .ok (.aaload, 1) := by decide +kernel
theorem dX8_shut_62 : decode cX8_shut 62 = .ok (.astore_n 3, 1) := by decide +kernel
theorem dX8_shut_63 : decode cX8_shut 63 = .ok (.aload_n 3, 1) := by decide +kernel
theorem dX8_shut_64 : decode cX8_shut 64 = .ok (.getfield 140, 3) := by decide +kernel
theorem dX8_shut_67 : decode cX8_shut 67 = .ok (.iconst 1, 1) := by decide +kernel
theorem dX8_shut_68 : decode cX8_shut 68 = .ok (.if_icmp .ne 32, 3) := by decide +kernel
theorem dX8_shut_71 : decode cX8_shut 71 = .ok (.aload_n 3, 1) := by decide +kernel
theorem dX8_shut_72 : decode cX8_shut 72 = .ok (.getfield 143, 3) := by decide +kernel
theorem dX8_shut_75 : decode cX8_shut 75 = .ok (.invokestatic 163, 3) := by decide +kernel
theorem dX8_shut_78 : decode cX8_shut 78 = .ok (.iload_n 1, 1) := by decide +kernel
theorem dX8_shut_79 : decode cX8_shut 79 = .ok (.if_icmp .ne 21, 3) := by decide +kernel
theorem dX8_shut_82 : decode cX8_shut 82 = .ok (.aload_n 0, 1) := by decide +kernel
theorem dX8_shut_83 : decode cX8_shut 83 = .ok (.aload_n 3, 1) := by decide +kernel
theorem dX8_shut_84 : decode cX8_shut 84 = .ok (.invokevirtual 146, 3) := by decide +kernel
theorem dX8_shut_87 : decode cX8_shut 87 = .ok (.aload_n 0, 1) := by decide +kernel
theorem dX8_shut_88 : decode cX8_shut 88 = .ok (.getfield 25, 3) := by decide +kernel
theorem dX8_shut_91 : decode cX8_shut 91 = .ok (.iload_n 2, 1) := by decide +kernel
theorem dX8_shut_92 : decode cX8_shut 92 = .ok (.aload_n 0, 1) := by decide +kernel
theorem dX8_shut_93 : decode cX8_shut 93 = .ok (.aload_n 3, 1) := by decide +kernel
theorem dX8_shut_94 : decode cX8_shut 94 = .ok (.invokevirtual 166, 3) := by decide +kernel
theorem dX8_shut_97 : decode cX8_shut 97 = .ok (.invokevirtual 170, 3) := by decide +kernel
theorem dX8_shut_100 : decode cX8_shut 100 = .ok (.iinc 2 1, 3) := by decide +kernel
theorem dX8_shut_103 : decode cX8_shut 103 = .ok (.goto (-55), 3) := by decide +kernel
theorem dX8_shut_106 : decode cX8_shut 106 = .ok (.aload_n 0, 1) := by decide +kernel
theorem dX8_shut_107 : decode cX8_shut 107 = .ok (.getfield 25, 3) := by decide +kernel
theorem dX8_shut_110 : decode cX8_shut 110 = .ok (.getfield 173, 3) := by decide +kernel
theorem dX8_shut_113 : decode cX8_shut 113 = .ok (.aload_n 0, 1) := by decide +kernel
theorem dX8_shut_114 : decode cX8_shut 114 = .ok (.invokevirtual 133, 3) := by decide +kernel
theorem dX8_shut_117 : decode cX8_shut 117 = .ok (.isub, 1) := by decide +kernel
theorem dX8_shut_118 : decode cX8_shut 118 = .ok (.ireturn, 1) := by decide +kernel
set_option maxRecDepth 20000 in
theorem ggX8_days_X8_isWithin : GoodIn wsX8_days wsX8_isWithin := goodIn_r _ [10] (by decide +kernel) (by decide +kernel)
set_option maxRecDepth 20000 in
theorem gX8_days_X8_isWithin : GoodIn wsX8_days (va_wsS RX8 76 yX8_isWithin wsX8_isWithin) := goodIn_app (goodIn_of _ (by decide +kernel)) ggX8_days_X8_isWithin
set_option maxRecDepth 20000 in
theorem ggX8_days_X8_isDay : GoodIn wsX8_days wsX8_isDay := goodIn_r _ [13] (by decide +kernel) (by decide +kernel)
set_option maxRecDepth 20000 in
theorem gX8_days_X8_isDay : GoodIn wsX8_days (va_wsS RX8 91 yX8_isDay wsX8_isDay) := goodIn_app (goodIn_of _ (by decide +kernel)) ggX8_days_X8_isDay
set_option maxRecDepth 20000 in
theorem ggX8_days_X8_dayOf : GoodIn wsX8_days wsX8_dayOf := goodIn_r _ [16] (by decide +kernel) (by decide +kernel)
set_option maxRecDepth 20000 in
theorem gX8_days_X8_dayOf : GoodIn wsX8_days (va_wsS RX8 163 yX8_dayOf wsX8_dayOf) := goodIn_app (goodIn_of _ (by decide +kernel)) ggX8_days_X8_dayOf
set_option maxRecDepth 20000 in
theorem ggX8_days_X8_release : GoodIn wsX8_days wsX8_release := goodIn_r _ [20, 1, 6, 5, 21, 22, 23, 24, 25, 26, 27, 28, 29, 30, 31, 32, 33, 34, 35, 36, 37, 38, 39, 40, 50, 51, 52, 53, 54, 55, 56, 57, 58, 59, 60, 61, 41, 42, 43, 44, 45, 46, 47, 48, 49] (by decide +kernel) (by decide +kernel)
set_option maxRecDepth 20000 in
theorem gX8_days_X8_release : GoodIn wsX8_days (wsV RX8 146 RX8 yX8_release wsX8_release) := goodIn_app (goodIn_of _ (by decide +kernel)) ggX8_days_X8_release
theorem dX8_days_0 : decode cX8_days 0 = .ok (.iload_n 1, 1) := by decide +kernel
theorem dX8_days_1 : decode cX8_days 1 = .ok (.iconst 1, 1) := by decide +kernel
theorem dX8_days_2 : decode cX8_days 2 = .ok (.bipush 59, 2) := by decide +kernel
theorem dX8_days_4 : decode cX8_days 4 = .ok (.invokestatic 76, 3) := by decide +kernel
theorem dX8_days_7 : decode cX8_days 7 = .ok (.ifCond .eq 18, 3) := by decide +kernel
theorem dX8_days_10 : decode cX8_days 10 = .ok (.aload_n 0, 1) := by decide +kernel
theorem dX8_days_11 : decode cX8_days 11 = .ok (.getfield 12, 3) := by decide +kernel
theorem dX8_days_14 : decode cX8_days 14 = .ok (.getfield 80, 3) := by decide +kernel
theorem dX8_days_17 : decode cX8_days 17 = .ok (.iload_n 1, 1) := by decide +kernel
theorem dX8_days_18 : decode cX8_days 18 = .ok (.iadd, 1) := by decide +kernel
theorem dX8_days_19 : decode cX8_days 19 = .ok (.invokestatic 91, 3) := by decide +kernel
theorem dX8_days_22 : decode cX8_days 22 = .ok (.ifCond .ne 5, 3) := by decide +kernel
theorem dX8_days_25 : decode cX8_days 25 = .ok (.iconst (-1), 1) := by decide +kernel
theorem dX8_days_26 : decode cX8_days 26 = .ok (.ireturn, 1) := by decide +kernel
theorem dX8_days_27 : decode cX8_days 27 = .ok (.aload_n 0, 1) := by decide +kernel
theorem dX8_days_28 : decode cX8_days 28 = .ok (.getfield 12, 3) := by decide +kernel
theorem dX8_days_31 : decode cX8_days 31 = .ok (.dup, 1) := by decide +kernel
theorem dX8_days_32 : decode cX8_days 32 = .ok (.getfield 80, 3) := by decide +kernel
theorem dX8_days_35 : decode cX8_days 35 = .ok (.iload_n 1, 1) := by decide +kernel
theorem dX8_days_36 : decode cX8_days 36 = .ok (.iadd, 1) := by decide +kernel
theorem dX8_days_37 : decode cX8_days 37 = .ok (.putfield 80, 3) := by decide +kernel
theorem dX8_days_40 : decode cX8_days 40 = .ok (.iconst 0, 1) := by decide +kernel
theorem dX8_days_41 : decode cX8_days 41 = .ok (.istore_n 2, 1) := by decide +kernel
theorem dX8_days_42 : decode cX8_days 42 = .ok (.iload_n 2, 1) := by decide +kernel
theorem dX8_days_43 : decode cX8_days 43 = .ok (.aload_n 0, 1) := by decide +kernel
theorem dX8_days_44 : decode cX8_days 44 = .ok (.getfield 64, 3) := by decide +kernel
theorem dX8_days_47 : decode cX8_days 47 = .ok (.if_icmp .ge 46, 3) := by decide +kernel
theorem dX8_days_50 : decode cX8_days 50 = .ok (.aload_n 0, 1) := by decide +kernel
theorem dX8_days_51 : decode cX8_days 51 = .ok (.getfield 18, 3) := by decide +kernel
theorem dX8_days_54 : decode cX8_days 54 = .ok (.iload_n 2, 1) := by decide +kernel
theorem dX8_days_55 : decode cX8_days 55 = .ok (.aaload, 1) := by decide +kernel
theorem dX8_days_56 : decode cX8_days 56 = .ok (.astore_n 3, 1) := by decide +kernel
theorem dX8_days_57 : decode cX8_days 57 = .ok (.aload_n 3, 1) := by decide +kernel
theorem dX8_days_58 : decode cX8_days 58 = .ok (.getfield 140, 3) := by decide +kernel
theorem dX8_days_61 : decode cX8_days 61 = .ok (.iconst 1, 1) := by decide +kernel
theorem dX8_days_62 : decode cX8_days 62 = .ok (.if_icmp .ne 25, 3) := by decide +kernel
theorem dX8_days_65 : decode cX8_days 65 = .ok (.aload_n 3, 1) := by decide +kernel
theorem dX8_days_66 : decode cX8_days 66 = .ok (.getfield 143, 3) := by decide +kernel
theorem dX8_days_69 : decode cX8_days 69 = .ok (.invokestatic 163, 3) := by decide +kernel
theorem dX8_days_72 : decode cX8_days 72 = .ok (.aload_n 0, 1) := by decide +kernel
theorem dX8_days_73 : decode cX8_days 73 = .ok (.getfield 12, 3) := by decide +kernel
theorem dX8_days_76 : decode cX8_days 76 = .ok (.getfield 80, 3) := by decide +kernel
theorem dX8_days_79 : decode cX8_days 79 = .ok (.if_icmp .ge 8, 3) := by decide +kernel
theorem dX8_days_82 : decode cX8_days 82 = .ok (.aload_n 0, 1) := by decide +kernel
theorem dX8_days_83 : decode cX8_days 83 = .ok (.aload_n 3, 1) := by decide +kernel
theorem dX8_days_84 : decode cX8_days 84 = .ok (.invokevirtual 146, 3) := by decide +kernel
theorem dX8_days_87 : decode cX8_days 87 = .ok (.iinc 2 1, 3) := by decide +kernel
theorem dX8_days_90 : decode cX8_days 90 = .ok (.goto (-48), 3) := by decide +kernel
theorem dX8_days_93 : decode cX8_days 93 = .ok (.aload_n 0, 1) := by decide +kernel
theorem dX8_days_94 : decode cX8_days 94 = .ok (.getfield 12, 3) := by decide +kernel
theorem dX8_days_97 : decode cX8_days 97 = .ok (.getfield 80, 3) := by decide +kernel
theorem dX8_days_100 : decode cX8_days 100 = .ok (.ireturn, 1) := by decide +kernel
set_option maxRecDepth 20000 in
theorem ggX8_held_X8_find : GoodIn wsX8_held wsX8_find := goodIn_r _ [10, 11, 12, 13, 14, 9, 15, 61, 62, 63, 64, 65, 66, 67, 68, 69, 70] (by decide +kernel) (by decide +kernel)
set_option maxRecDepth 20000 in
theorem gX8_held_X8_find : GoodIn wsX8_held (wsV RX8 136 RX8 yX8_find wsX8_find) := goodIn_app (goodIn_of _ (by decide +kernel)) ggX8_held_X8_find
set_option maxRecDepth 20000 in
theorem ggX8_held_X8_dayOf : GoodIn wsX8_held wsX8_dayOf := goodIn_r _ [18] (by decide +kernel) (by decide +kernel)
set_option maxRecDepth 20000 in
theorem gX8_held_X8_dayOf : GoodIn wsX8_held (va_wsS RX8 163 yX8_dayOf wsX8_dayOf) := goodIn_app (goodIn_of _ (by decide +kernel)) ggX8_held_X8_dayOf
set_option maxRecDepth 20000 in
theorem ggX8_held_X8_examinerOf : GoodIn wsX8_held wsX8_examinerOf := goodIn_r _ [21] (by decide +kernel) (by decide +kernel)
set_option maxRecDepth 20000 in
theorem gX8_held_X8_examinerOf : GoodIn wsX8_held (va_wsS RX8 176 yX8_examinerOf wsX8_examinerOf) := goodIn_app (goodIn_of _ (by decide +kernel)) ggX8_held_X8_examinerOf
set_option maxRecDepth 20000 in
theorem ggX8_held_X0_noteTest : GoodIn wsX8_held wsX0_noteTest := goodIn_r _ [26, 27, 28, 29, 30, 31, 32, 33, 25, 34, 35, 71, 72, 73, 74, 75, 76, 77, 78, 79] (by decide +kernel) (by decide +kernel)
set_option maxRecDepth 20000 in
theorem gX8_held_X0_noteTest : GoodIn wsX8_held (wsV RX8 179 RX0 yX0_noteTest wsX0_noteTest) := goodIn_app (goodIn_of _ (by decide +kernel)) ggX8_held_X0_noteTest
set_option maxRecDepth 20000 in
theorem ggX8_held_X8_release : GoodIn wsX8_held wsX8_release := goodIn_r _ [39, 3, 2, 1, 40, 41, 42, 25, 43, 44, 45, 46, 47, 48, 61, 62, 63, 64, 65, 66, 67, 68, 69, 70, 49, 50, 51, 52, 53, 54, 55, 56, 57, 58, 59, 60, 71, 72, 73, 74, 75, 76, 77, 78, 79] (by decide +kernel) (by decide +kernel)
set_option maxRecDepth 20000 in
theorem gX8_held_X8_release : GoodIn wsX8_held (wsV RX8 146 RX8 yX8_release wsX8_release) := goodIn_app (goodIn_of _ (by decide +kernel)) ggX8_held_X8_release
theorem dX8_held_0 : decode cX8_held 0 = .ok (.aload_n 0, 1) := by decide +kernel
theorem dX8_held_1 : decode cX8_held 1 = .ok (.iload_n 1, 1) := by decide +kernel
theorem dX8_held_2 : decode cX8_held 2 = .ok (.invokevirtual 136, 3) := by decide +kernel
theorem dX8_held_5 : decode cX8_held 5 = .ok (.astore_n 3, 1) := by decide +kernel
theorem dX8_held_6 : decode cX8_held 6 = .ok (.aload_n 3, 1) := by decide +kernel
theorem dX8_held_7 : decode cX8_held 7 = .ok (.ifnull 28, 3) := by decide +kernel
theorem dX8_held_10 : decode cX8_held 10 = .ok (.aload_n 3, 1) := by decide +kernel
theorem dX8_held_11 : decode cX8_held 11 = .ok (.getfield 140, 3) := by decide +kernel
theorem dX8_held_14 : decode cX8_held 14 = .ok (.iconst 1, 1) := by decide +kernel
theorem dX8_held_15 : decode cX8_held 15 = .ok (.if_icmp .ne 20, 3) := by decide +kernel
theorem dX8_held_18 : decode cX8_held 18 = .ok (.aload_n 3, 1) := by decide +kernel
theorem dX8_held_19 : decode cX8_held 19 = .ok (.getfield 143, 3) := by decide +kernel
theorem dX8_held_22 : decode cX8_held 22 = .ok (.invokestatic 163, 3) := by decide +kernel
theorem dX8_held_25 : decode cX8_held 25 = .ok (.aload_n 0, 1) := by decide +kernel
theorem dX8_held_26 : decode cX8_held 26 = .ok (.getfield 12, 3) := by decide +kernel
theorem dX8_held_29 : decode cX8_held 29 = .ok (.getfield 80, 3) := by decide +kernel
theorem dX8_held_32 : decode cX8_held 32 = .ok (.if_icmp .eq 5, 3) := by decide +kernel
theorem dX8_held_35 : decode cX8_held 35 = .ok (.iconst 0, 1) := by decide +kernel
theorem dX8_held_36 : decode cX8_held 36 = .ok (.ireturn, 1) := by decide +kernel
theorem dX8_held_37 : decode cX8_held 37 = .ok (.aload_n 0, 1) := by decide +kernel
theorem dX8_held_38 : decode cX8_held 38 = .ok (.getfield 12, 3) := by decide +kernel
theorem dX8_held_41 : decode cX8_held 41 = .ok (.aload_n 3, 1) := by decide +kernel
theorem dX8_held_42 : decode cX8_held 42 = .ok (.getfield 143, 3) := by decide +kernel
theorem dX8_held_45 : decode cX8_held 45 = .ok (.invokestatic 176, 3) := by decide +kernel
theorem dX8_held_48 : decode cX8_held 48 = .ok (.iload_n 2, 1) := by decide +kernel
theorem dX8_held_49 : decode cX8_held 49 = .ok (.invokevirtual 179, 3) := by decide +kernel
theorem dX8_held_52 : decode cX8_held 52 = .ok (.aload_n 0, 1) := by decide +kernel
theorem dX8_held_53 : decode cX8_held 53 = .ok (.aload_n 3, 1) := by decide +kernel
theorem dX8_held_54 : decode cX8_held 54 = .ok (.invokevirtual 146, 3) := by decide +kernel
theorem dX8_held_57 : decode cX8_held 57 = .ok (.iload_n 2, 1) := by decide +kernel
theorem dX8_held_58 : decode cX8_held 58 = .ok (.ifCond .eq 11, 3) := by decide +kernel
theorem dX8_held_61 : decode cX8_held 61 = .ok (.aload_n 3, 1) := by decide +kernel
theorem dX8_held_62 : decode cX8_held 62 = .ok (.iconst 2, 1) := by decide +kernel
theorem dX8_held_63 : decode cX8_held 63 = .ok (.putfield 140, 3) := by decide +kernel
theorem dX8_held_66 : decode cX8_held 66 = .ok (.goto 13, 3) := by decide +kernel
theorem dX8_held_69 : decode cX8_held 69 = .ok (.aload_n 3, 1) := by decide +kernel
theorem dX8_held_70 : decode cX8_held 70 = .ok (.dup, 1) := by decide +kernel
theorem dX8_held_71 : decode cX8_held 71 = .ok (.getfield 183, 3) := by decide +kernel
theorem dX8_held_74 : decode cX8_held 74 = .ok (.iconst 1, 1) := by decide +kernel
theorem dX8_held_75 : decode cX8_held 75 = .ok (.iadd, 1) := by decide +kernel
theorem dX8_held_76 : decode cX8_held 76 = .ok (.putfield 183, 3) := by decide +kernel
theorem dX8_held_79 : decode cX8_held 79 = .ok (.iconst 1, 1) := by decide +kernel
theorem dX8_held_80 : decode cX8_held 80 = .ok (.ireturn, 1) := by decide +kernel
set_option maxRecDepth 20000 in
theorem ggX8_look_X8_find : GoodIn wsX8_look wsX8_find := goodIn_r _ [11, 12, 13, 14, 15, 10, 16, 84, 85, 86, 87, 88, 89, 90, 91, 92, 93] (by decide +kernel) (by decide +kernel)
set_option maxRecDepth 20000 in
theorem gX8_look_X8_find : GoodIn wsX8_look (wsV RX8 136 RX8 yX8_find wsX8_find) := goodIn_app (goodIn_of _ (by decide +kernel)) ggX8_look_X8_find
set_option maxRecDepth 20000 in
theorem ggX8_look_X8_placeAmongWaiting : GoodIn wsX8_look wsX8_placeAmongWaiting := goodIn_r _ [20, 21, 22, 23, 24, 25, 10, 26, 12, 13, 3, 27, 28, 29, 30, 31, 32, 33, 34, 35, 36, 37, 38, 39, 40, 41, 42, 5, 43, 44, 45, 46, 47, 48, 49, 50, 51, 52, 53, 54, 55, 56, 57, 58, 59, 60, 61, 62, 63, 64, 65, 66, 67, 68, 69, 70, 71, 84, 85, 86, 87, 88, 89, 90, 91, 92, 93, 72, 73, 74, 75, 76, 77, 78, 79, 80, 81, 82, 83, 94, 95, 96, 97, 98, 99, 100, 101, 102, 103, 104, 105, 106, 107, 108, 109, 110, 111] (by decide +kernel) (by decide +kernel)
set_option maxRecDepth 20000 in
theorem gX8_look_X8_placeAmongWaiting : GoodIn wsX8_look (wsV RX8 193 RX8 yX8_placeAmongWaiting wsX8_placeAmongWaiting) := goodIn_app (goodIn_of _ (by decide +kernel)) ggX8_look_X8_placeAmongWaiting
theorem dX8_look_0 : decode cX8_look 0 = .ok (.aload_n 0, 1) := by decide +kernel
theorem dX8_look_1 : decode cX8_look 1 = .ok (.iload_n 1, 1) := by decide +kernel
theorem dX8_look_2 : decode cX8_look 2 = .ok (.invokevirtual 136, 3) := by decide +kernel
theorem dX8_look_5 : decode cX8_look 5 = .ok (.astore_n 3, 1) := by decide +kernel
theorem dX8_look_6 : decode cX8_look 6 = .ok (.aload_n 3, 1) := by decide +kernel
theorem dX8_look_7 : decode cX8_look 7 = .ok (.ifnonnull 13, 3) := by decide +kernel
theorem dX8_look_10 : decode cX8_look 10 = .ok (.new 186, 3) := by decide +kernel
theorem dX8_look_13 : decode cX8_look 13 = .ok (.dup, 1) := by decide +kernel
theorem dX8_look_14 : decode cX8_look 14 = .ok (.ldc 188, 2) := by decide +kernel
theorem dX8_look_16 : decode cX8_look 16 = .ok (.invokespecial 190, 3) := by decide +kernel
theorem dX8_look_19 : decode cX8_look 19 = .ok (.athrow, 1) := by decide +kernel
theorem dX8_look_20 : decode cX8_look 20 = .ok (.iload_n 2, 1) := by decide +kernel
theorem dX8_look_21 : decode cX8_look 21 = .ok (.tableswitch 61 0 4 #[35, 40, 45, 50, 56], 35) := by decide +kernel
theorem dX8_look_56 : decode cX8_look 56 = .ok (.aload_n 3, 1) := by decide +kernel
theorem dX8_look_57 : decode cX8_look 57 = .ok (.getfield 140, 3) := by decide +kernel
theorem dX8_look_60 : decode cX8_look 60 = .ok (.ireturn, 1) := by decide +kernel
theorem dX8_look_61 : decode cX8_look 61 = .ok (.aload_n 3, 1) := by decide +kernel
theorem dX8_look_62 : decode cX8_look 62 = .ok (.getfield 143, 3) := by decide +kernel
theorem dX8_look_65 : decode cX8_look 65 = .ok (.ireturn, 1) := by decide +kernel
theorem dX8_look_66 : decode cX8_look 66 = .ok (.aload_n 3, 1) := by decide +kernel
theorem dX8_look_67 : decode cX8_look 67 = .ok (.getfield 183, 3) := by decide +kernel
theorem dX8_look_70 : decode cX8_look 70 = .ok (.ireturn, 1) := by decide +kernel
theorem dX8_look_71 : decode cX8_look 71 = .ok (.aload_n 0, 1) := by decide +kernel
theorem dX8_look_72 : decode cX8_look 72 = .ok (.aload_n 3, 1) := by decide +kernel
theorem dX8_look_73 : decode cX8_look 73 = .ok (.invokevirtual 193, 3) := by decide +kernel
theorem dX8_look_76 : decode cX8_look 76 = .ok (.ireturn, 1) := by decide +kernel
theorem dX8_look_77 : decode cX8_look 77 = .ok (.aload_n 3, 1) := by decide +kernel
theorem dX8_look_78 : decode cX8_look 78 = .ok (.getfield 196, 3) := by decide +kernel
theorem dX8_look_81 : decode cX8_look 81 = .ok (.ireturn, 1) := by decide +kernel
theorem dX8_look_82 : decode cX8_look 82 = .ok (.new 186, 3) := by decide +kernel
theorem dX8_look_85 : decode cX8_look 85 = .ok (.dup, 1) := by decide +kernel
theorem dX8_look_86 : decode cX8_look 86 = .ok (.ldc 199, 2) := by decide +kernel
theorem dX8_look_88 : decode cX8_look 88 = .ok (.invokespecial 190, 3) := by decide +kernel
theorem dX8_look_91 : decode cX8_look 91 = .ok (.athrow, 1) := by decide +kernel
set_option maxRecDepth 20000 in
theorem ggX8_at_X8_isDay : GoodIn wsX8_at wsX8_isDay := goodIn_r _ [5] (by decide +kernel) (by decide +kernel)
set_option maxRecDepth 20000 in
theorem gX8_at_X8_isDay : GoodIn wsX8_at (va_wsS RX8 91 yX8_isDay wsX8_isDay) := goodIn_app (goodIn_of _ (by decide +kernel)) ggX8_at_X8_isDay
set_option maxRecDepth 20000 in
theorem ggX8_at_X8_isWithin : GoodIn wsX8_at wsX8_isWithin := goodIn_r _ [8] (by decide +kernel) (by decide +kernel)
set_option maxRecDepth 20000 in
theorem gX8_at_X8_isWithin : GoodIn wsX8_at (va_wsS RX8 76 yX8_isWithin wsX8_isWithin) := goodIn_app (goodIn_of _ (by decide +kernel)) ggX8_at_X8_isWithin
set_option maxRecDepth 20000 in
theorem ggX8_at_X0_isExaminer : GoodIn wsX8_at wsX0_isExaminer := goodIn_r _ [13, 14, 49, 50, 51, 52, 53, 54, 55, 56, 57] (by decide +kernel) (by decide +kernel)
set_option maxRecDepth 20000 in
theorem gX8_at_X0_isExaminer : GoodIn wsX8_at (wsV RX8 72 RX0 yX0_isExaminer wsX0_isExaminer) := goodIn_app (goodIn_of _ (by decide +kernel)) ggX8_at_X0_isExaminer
set_option maxRecDepth 20000 in
theorem ggX8_at_X0_hasHour : GoodIn wsX8_at wsX0_hasHour := goodIn_r _ [18, 19, 20, 21, 12, 22, 14, 23, 24, 25, 26, 49, 50, 51, 52, 53, 54, 55, 56, 57] (by decide +kernel) (by decide +kernel)
set_option maxRecDepth 20000 in
theorem gX8_at_X0_hasHour : GoodIn wsX8_at (wsV RX8 201 RX0 yX0_hasHour wsX0_hasHour) := goodIn_app (goodIn_of _ (by decide +kernel)) ggX8_at_X0_hasHour
set_option maxRecDepth 20000 in
theorem ggX8_at_X8_slotOf : GoodIn wsX8_at wsX8_slotOf := goodIn_r _ [29] (by decide +kernel) (by decide +kernel)
set_option maxRecDepth 20000 in
theorem gX8_at_X8_slotOf : GoodIn wsX8_at (va_wsS RX8 204 yX8_slotOf wsX8_slotOf) := goodIn_app (goodIn_of _ (by decide +kernel)) ggX8_at_X8_slotOf
set_option maxRecDepth 20000 in
theorem ggX8_at_X0_bookedIn : GoodIn wsX8_at wsX0_bookedIn := goodIn_r _ [33, 34, 35, 36, 37, 12, 38, 49, 50, 51, 52, 53, 54, 55, 56, 57] (by decide +kernel) (by decide +kernel)
set_option maxRecDepth 20000 in
theorem gX8_at_X0_bookedIn : GoodIn wsX8_at (wsV RX8 208 RX0 yX0_bookedIn wsX0_bookedIn) := goodIn_app (goodIn_of _ (by decide +kernel)) ggX8_at_X0_bookedIn
theorem dX8_at_0 : decode cX8_at 0 = .ok (.iload_n 1, 1) := by decide +kernel
theorem dX8_at_1 : decode cX8_at 1 = .ok (.invokestatic 91, 3) := by decide +kernel
theorem dX8_at_4 : decode cX8_at 4 = .ok (.ifCond .eq 23, 3) := by decide +kernel
theorem dX8_at_7 : decode cX8_at 7 = .ok (.iload_n 2, 1) := by decide +kernel
theorem dX8_at_8 : decode cX8_at 8 = .ok (.iconst 0, 1) := by decide +kernel
theorem dX8_at_9 : decode cX8_at 9 = .ok (.iconst 5, 1) := by decide +kernel
theorem dX8_at_10 : decode cX8_at 10 = .ok (.invokestatic 76, 3) := by decide +kernel
theorem dX8_at_13 : decode cX8_at 13 = .ok (.ifCond .eq 14, 3) := by decide +kernel
theorem dX8_at_16 : decode cX8_at 16 = .ok (.aload_n 0, 1) := by decide +kernel
theorem dX8_at_17 : decode cX8_at 17 = .ok (.getfield 12, 3) := by decide +kernel
theorem dX8_at_20 : decode cX8_at 20 = .ok (.iload_n 3, 1) := by decide +kernel
theorem dX8_at_21 : decode cX8_at 21 = .ok (.invokevirtual 72, 3) := by decide +kernel
theorem dX8_at_24 : decode cX8_at 24 = .ok (.ifCond .ne 6, 3) := by decide +kernel
theorem dX8_at_27 : decode cX8_at 27 = .ok (.bipush (-3), 2) := by decide +kernel
theorem dX8_at_29 : decode cX8_at 29 = .ok (.ireturn, 1) := by decide +kernel
theorem dX8_at_30 : decode cX8_at 30 = .ok (.aload_n 0, 1) := by decide +kernel
theorem dX8_at_31 : decode cX8_at 31 = .ok (.getfield 12, 3) := by decide +kernel
theorem dX8_at_34 : decode cX8_at 34 = .ok (.iload_n 1, 1) := by decide +kernel
theorem dX8_at_35 : decode cX8_at 35 = .ok (.iload_n 2, 1) := by decide +kernel
theorem dX8_at_36 : decode cX8_at 36 = .ok (.iload_n 3, 1) := by decide +kernel
theorem dX8_at_37 : decode cX8_at 37 = .ok (.invokevirtual 201, 3) := by decide +kernel
theorem dX8_at_40 : decode cX8_at 40 = .ok (.ifCond .ne 6, 3) := by decide +kernel
theorem dX8_at_43 : decode cX8_at 43 = .ok (.bipush (-2), 2) := by decide +kernel
theorem dX8_at_45 : decode cX8_at 45 = .ok (.ireturn, 1) := by decide +kernel
theorem dX8_at_46 : decode cX8_at 46 = .ok (.aload_n 0, 1) := by decide +kernel
theorem dX8_at_47 : decode cX8_at 47 = .ok (.getfield 12, 3) := by decide +kernel
theorem dX8_at_50 : decode cX8_at 50 = .ok (.iload_n 1, 1) := by decide +kernel
theorem dX8_at_51 : decode cX8_at 51 = .ok (.iload_n 2, 1) := by decide +kernel
theorem dX8_at_52 : decode cX8_at 52 = .ok (.iload_n 3, 1) := by decide +kernel
theorem dX8_at_53 : decode cX8_at 53 = .ok (.invokestatic 204, 3) := by decide +kernel
theorem dX8_at_56 : decode cX8_at 56 = .ok (.invokevirtual 208, 3) := by decide +kernel
theorem dX8_at_59 : decode cX8_at 59 = .ok (.ireturn, 1) := by decide +kernel
set_option maxRecDepth 20000 in
theorem ggX8_street_X3_add : GoodIn wsX8_street wsX3_add := goodIn_r _ [6, 7, 8, 9, 10, 11, 12, 13, 14, 5, 15, 16, 17, 18, 19, 20, 21, 22, 23, 24, 35, 36, 37, 38, 39, 40, 41, 42, 43, 44, 45, 46, 47, 48, 49, 50, 51, 52] (by decide +kernel) (by decide +kernel)
set_option maxRecDepth 20000 in
theorem gX8_street_X3_add : GoodIn wsX8_street (wsV RX8 211 RX3 yX3_add wsX3_add) := goodIn_app (goodIn_of _ (by decide +kernel)) ggX8_street_X3_add
theorem dX8_street_0 : decode cX8_street 0 = .ok (.aload_n 0, 1) := by decide +kernel
theorem dX8_street_1 : decode cX8_street 1 = .ok (.getfield 52, 3) := by decide +kernel
theorem dX8_street_4 : decode cX8_street 4 = .ok (.iload_n 1, 1) := by decide +kernel
theorem dX8_street_5 : decode cX8_street 5 = .ok (.iload_n 2, 1) := by decide +kernel
theorem dX8_street_6 : decode cX8_street 6 = .ok (.iload_n 3, 1) := by decide +kernel
theorem dX8_street_7 : decode cX8_street 7 = .ok (.iload 4, 2) := by decide +kernel
theorem dX8_street_9 : decode cX8_street 9 = .ok (.invokevirtual 211, 3) := by decide +kernel
theorem dX8_street_12 : decode cX8_street 12 = .ok (.ireturn, 1) := by decide +kernel
set_option maxRecDepth 20000 in
theorem ggX8_close_X3_setClosed : GoodIn wsX8_close wsX3_setClosed := goodIn_r _ [6, 7, 8, 9, 10, 11, 22, 23, 24, 25, 26, 27, 28, 29, 30, 31, 32, 33, 34, 35, 36, 37, 38, 39] (by decide +kernel) (by decide +kernel)
set_option maxRecDepth 20000 in
theorem gX8_close_X3_setClosed : GoodIn wsX8_close (wsV RX8 214 RX3 yX3_setClosed wsX3_setClosed) := goodIn_app (goodIn_of _ (by decide +kernel)) ggX8_close_X3_setClosed
theorem dX8_close_0 : decode cX8_close 0 = .ok (.aload_n 0, 1) := by decide +kernel
theorem dX8_close_1 : decode cX8_close 1 = .ok (.getfield 52, 3) := by decide +kernel
theorem dX8_close_4 : decode cX8_close 4 = .ok (.iload_n 1, 1) := by decide +kernel
theorem dX8_close_5 : decode cX8_close 5 = .ok (.iload_n 2, 1) := by decide +kernel
theorem dX8_close_6 : decode cX8_close 6 = .ok (.invokevirtual 214, 3) := by decide +kernel
theorem dX8_close_9 : decode cX8_close 9 = .ok (.ireturn, 1) := by decide +kernel
set_option maxRecDepth 20000 in
theorem ggX8_routes_X3_countRoutes : GoodIn wsX8_routes wsX3_countRoutes := goodIn_r _ [6, 7, 8, 9, 10, 11, 12, 13, 14, 15, 16, 5, 17, 18, 19, 20, 21, 22, 23, 24, 25, 26, 27, 28, 29, 30, 31, 32, 33, 34, 35, 36, 47, 48, 49, 50, 51, 52, 53, 54, 55, 56, 57, 58, 59, 60, 61, 62, 63, 64] (by decide +kernel) (by decide +kernel)
set_option maxRecDepth 20000 in
theorem gX8_routes_X3_countRoutes : GoodIn wsX8_routes (wsV RX8 218 RX3 yX3_countRoutes wsX3_countRoutes) := goodIn_app (goodIn_of _ (by decide +kernel)) ggX8_routes_X3_countRoutes
theorem dX8_routes_0 : decode cX8_routes 0 = .ok (.aload_n 0, 1) := by decide +kernel
theorem dX8_routes_1 : decode cX8_routes 1 = .ok (.getfield 52, 3) := by decide +kernel
theorem dX8_routes_4 : decode cX8_routes 4 = .ok (.iload_n 1, 1) := by decide +kernel
theorem dX8_routes_5 : decode cX8_routes 5 = .ok (.iload_n 2, 1) := by decide +kernel
theorem dX8_routes_6 : decode cX8_routes 6 = .ok (.iload_n 3, 1) := by decide +kernel
theorem dX8_routes_7 : decode cX8_routes 7 = .ok (.invokevirtual 218, 3) := by decide +kernel
theorem dX8_routes_10 : decode cX8_routes 10 = .ok (.ireturn, 1) := by decide +kernel
set_option maxRecDepth 20000 in
theorem ggX8_route_X3_draw : GoodIn wsX8_route wsX3_draw := goodIn_r _ [6, 7, 8, 9, 10, 11, 12, 13, 14, 15, 16, 17, 18, 5, 19, 20, 21, 22, 23, 24, 25, 26, 27, 28, 29, 30, 31, 32, 33, 34, 35, 36, 37, 38, 39, 40, 41, 42, 43, 44, 45, 46, 57, 58, 59, 60, 61, 62, 63, 64, 65, 66, 67, 68, 69, 70, 71, 72, 73, 74] (by decide +kernel) (by decide +kernel)
set_option maxRecDepth 20000 in
theorem gX8_route_X3_draw : GoodIn wsX8_route (wsV RX8 221 RX3 yX3_draw wsX3_draw) := goodIn_app (goodIn_of _ (by decide +kernel)) ggX8_route_X3_draw
theorem dX8_route_0 : decode cX8_route 0 = .ok (.aload_n 0, 1) := by decide +kernel
theorem dX8_route_1 : decode cX8_route 1 = .ok (.getfield 52, 3) := by decide +kernel
theorem dX8_route_4 : decode cX8_route 4 = .ok (.iload_n 1, 1) := by decide +kernel
theorem dX8_route_5 : decode cX8_route 5 = .ok (.iload_n 2, 1) := by decide +kernel
theorem dX8_route_6 : decode cX8_route 6 = .ok (.iload_n 3, 1) := by decide +kernel
theorem dX8_route_7 : decode cX8_route 7 = .ok (.iload 4, 2) := by decide +kernel
theorem dX8_route_9 : decode cX8_route 9 = .ok (.invokevirtual 221, 3) := by decide +kernel
theorem dX8_route_12 : decode cX8_route 12 = .ok (.ireturn, 1) := by decide +kernel
set_option maxRecDepth 20000 in
theorem ggX8_part_X3_drawnStreet : GoodIn wsX8_part wsX3_drawnStreet := goodIn_r _ [6, 7, 8, 9, 10, 11, 22, 23, 24, 25, 26, 27, 28, 29, 30, 31, 32, 33, 34, 35, 36, 37, 38, 39] (by decide +kernel) (by decide +kernel)
set_option maxRecDepth 20000 in
theorem gX8_part_X3_drawnStreet : GoodIn wsX8_part (wsV RX8 224 RX3 yX3_drawnStreet wsX3_drawnStreet) := goodIn_app (goodIn_of _ (by decide +kernel)) ggX8_part_X3_drawnStreet
theorem dX8_part_0 : decode cX8_part 0 = .ok (.aload_n 0, 1) := by decide +kernel
theorem dX8_part_1 : decode cX8_part 1 = .ok (.getfield 52, 3) := by decide +kernel
theorem dX8_part_4 : decode cX8_part 4 = .ok (.iload_n 1, 1) := by decide +kernel
theorem dX8_part_5 : decode cX8_part 5 = .ok (.invokevirtual 224, 3) := by decide +kernel
theorem dX8_part_8 : decode cX8_part 8 = .ok (.ireturn, 1) := by decide +kernel
set_option maxRecDepth 20000 in
theorem ggX8_differs_X0_isExaminer : GoodIn wsX8_differs wsX0_isExaminer := goodIn_r _ [6, 7, 40, 41, 42, 43, 44, 45, 46, 47, 48] (by decide +kernel) (by decide +kernel)
set_option maxRecDepth 20000 in
theorem gX8_differs_X0_isExaminer : GoodIn wsX8_differs (wsV RX8 72 RX0 yX0_isExaminer wsX0_isExaminer) := goodIn_app (goodIn_of _ (by decide +kernel)) ggX8_differs_X0_isExaminer
set_option maxRecDepth 20000 in
theorem ggX8_differs_X8_isWithin : GoodIn wsX8_differs wsX8_isWithin := goodIn_r _ [11] (by decide +kernel) (by decide +kernel)
set_option maxRecDepth 20000 in
theorem gX8_differs_X8_isWithin : GoodIn wsX8_differs (va_wsS RX8 76 yX8_isWithin wsX8_isWithin) := goodIn_app (goodIn_of _ (by decide +kernel)) ggX8_differs_X8_isWithin
set_option maxRecDepth 20000 in
theorem ggX8_differs_X0_difference : GoodIn wsX8_differs wsX0_difference := goodIn_r _ [15, 16, 17, 18, 19, 20, 21, 5, 22, 23, 24, 3, 4, 6, 7, 25, 26, 27, 28, 29, 40, 41, 42, 43, 44, 45, 46, 47, 48] (by decide +kernel) (by decide +kernel)
set_option maxRecDepth 20000 in
theorem gX8_differs_X0_difference : GoodIn wsX8_differs (wsV RX8 227 RX0 yX0_difference wsX0_difference) := goodIn_app (goodIn_of _ (by decide +kernel)) ggX8_differs_X0_difference
theorem dX8_differs_0 : decode cX8_differs 0 = .ok (.aload_n 0, 1) := by decide +kernel
theorem dX8_differs_1 : decode cX8_differs 1 = .ok (.getfield 12, 3) := by decide +kernel
theorem dX8_differs_4 : decode cX8_differs 4 = .ok (.iload_n 1, 1) := by decide +kernel
theorem dX8_differs_5 : decode cX8_differs 5 = .ok (.invokevirtual 72, 3) := by decide +kernel
theorem dX8_differs_8 : decode cX8_differs 8 = .ok (.ifCond .eq 13, 3) := by decide +kernel
theorem dX8_differs_11 : decode cX8_differs 11 = .ok (.iload_n 2, 1) := by decide +kernel
theorem dX8_differs_12 : decode cX8_differs 12 = .ok (.iconst 0, 1) := by decide +kernel
theorem dX8_differs_13 : decode cX8_differs 13 = .ok (.bipush 100, 2) := by decide +kernel
theorem dX8_differs_15 : decode cX8_differs 15 = .ok (.invokestatic 76, 3) := by decide +kernel
theorem dX8_differs_18 : decode cX8_differs 18 = .ok (.ifCond .ne 6, 3) := by decide +kernel
theorem dX8_differs_21 : decode cX8_differs 21 = .ok (.bipush (-2), 2) := by decide +kernel
theorem dX8_differs_23 : decode cX8_differs 23 = .ok (.ireturn, 1) := by decide +kernel
theorem dX8_differs_24 : decode cX8_differs 24 = .ok (.aload_n 0, 1) := by decide +kernel
theorem dX8_differs_25 : decode cX8_differs 25 = .ok (.getfield 12, 3) := by decide +kernel
theorem dX8_differs_28 : decode cX8_differs 28 = .ok (.iload_n 1, 1) := by decide +kernel
theorem dX8_differs_29 : decode cX8_differs 29 = .ok (.iload_n 2, 1) := by decide +kernel
theorem dX8_differs_30 : decode cX8_differs 30 = .ok (.invokevirtual 227, 3) := by decide +kernel
theorem dX8_differs_33 : decode cX8_differs 33 = .ok (.ireturn, 1) := by decide +kernel
set_option maxRecDepth 20000 in
theorem ggX8_count_X8_countOfState : GoodIn wsX8_count wsX8_countOfState := goodIn_r _ [16, 3, 17, 18, 19, 20, 21, 22, 23, 24, 25, 26, 27, 28, 64, 65, 66, 67, 68, 69, 70, 71, 72, 73, 74, 75] (by decide +kernel) (by decide +kernel)
set_option maxRecDepth 20000 in
theorem gX8_count_X8_countOfState : GoodIn wsX8_count (wsV RX8 234 RX8 yX8_countOfState wsX8_countOfState) := goodIn_app (goodIn_of _ (by decide +kernel)) ggX8_count_X8_countOfState
theorem dX8_count_0 : decode cX8_count 0 = .ok (.iload_n 1, 1) := by decide +kernel
theorem dX8_count_1 : decode cX8_count 1 = .ok (.tableswitch 120 0 10 #[59, 67, 72, 80, 80, 80, 80, 88, 96, 104, 112], 59) := by decide +kernel
theorem dX8_count_60 : decode cX8_count 60 = .ok (.aload_n 0, 1) := by decide +kernel
theorem dX8_count_61 : decode cX8_count 61 = .ok (.getfield 12, 3) := by decide +kernel
theorem dX8_count_64 : decode cX8_count 64 = .ok (.getfield 231, 3) := by decide +kernel
theorem dX8_count_67 : decode cX8_count 67 = .ok (.ireturn, 1) := by decide +kernel
theorem dX8_count_68 : decode cX8_count 68 = .ok (.aload_n 0, 1) := by decide +kernel
theorem dX8_count_69 : decode cX8_count 69 = .ok (.getfield 64, 3) := by decide +kernel
theorem dX8_count_72 : decode cX8_count 72 = .ok (.ireturn, 1) := by decide +kernel
theorem dX8_count_73 : decode cX8_count 73 = .ok (.aload_n 0, 1) := by decide +kernel
theorem dX8_count_74 : decode cX8_count 74 = .ok (.getfield 12, 3) := by decide +kernel
theorem dX8_count_77 : decode cX8_count 77 = .ok (.getfield 80, 3) := by decide +kernel
theorem dX8_count_80 : decode cX8_count 80 = .ok (.ireturn, 1) := by decide +kernel
theorem dX8_count_81 : decode cX8_count 81 = .ok (.aload_n 0, 1) := by decide +kernel
theorem dX8_count_82 : decode cX8_count 82 = .ok (.iload_n 1, 1) := by decide +kernel
theorem dX8_count_83 : decode cX8_count 83 = .ok (.iconst 3, 1) := by decide +kernel
theorem dX8_count_84 : decode cX8_count 84 = .ok (.isub, 1) := by decide +kernel
theorem dX8_count_85 : decode cX8_count 85 = .ok (.invokevirtual 234, 3) := by decide +kernel
theorem dX8_count_88 : decode cX8_count 88 = .ok (.ireturn, 1) := by decide +kernel
theorem dX8_count_89 : decode cX8_count 89 = .ok (.aload_n 0, 1) := by decide +kernel
theorem dX8_count_90 : decode cX8_count 90 = .ok (.getfield 57, 3) := by decide +kernel
theorem dX8_count_93 : decode cX8_count 93 = .ok (.getfield 237, 3) := by decide +kernel
theorem dX8_count_96 : decode cX8_count 96 = .ok (.ireturn, 1) := by decide +kernel
theorem dX8_count_97 : decode cX8_count 97 = .ok (.aload_n 0, 1) := by decide +kernel
theorem dX8_count_98 : decode cX8_count 98 = .ok (.getfield 38, 3) := by decide +kernel
theorem dX8_count_101 : decode cX8_count 101 = .ok (.getfield 123, 3) := by decide +kernel
theorem dX8_count_104 : decode cX8_count 104 = .ok (.ireturn, 1) := by decide +kernel
theorem dX8_count_105 : decode cX8_count 105 = .ok (.aload_n 0, 1) := by decide +kernel
theorem dX8_count_106 : decode cX8_count 106 = .ok (.getfield 52, 3) := by decide +kernel
theorem dX8_count_109 : decode cX8_count 109 = .ok (.getfield 240, 3) := by decide +kernel
theorem dX8_count_112 : decode cX8_count 112 = .ok (.ireturn, 1) := by decide +kernel
theorem dX8_count_113 : decode cX8_count 113 = .ok (.aload_n 0, 1) := by decide +kernel
theorem dX8_count_114 : decode cX8_count 114 = .ok (.getfield 12, 3) := by decide +kernel
theorem dX8_count_117 : decode cX8_count 117 = .ok (.getfield 241, 3) := by decide +kernel
theorem dX8_count_120 : decode cX8_count 120 = .ok (.ireturn, 1) := by decide +kernel
theorem dX8_count_121 : decode cX8_count 121 = .ok (.iconst (-1), 1) := by decide +kernel
theorem dX8_count_122 : decode cX8_count 122 = .ok (.ireturn, 1) := by decide +kernel
set_option maxRecDepth 20000 in
theorem ggX8_load_X0_isExaminer : GoodIn wsX8_load wsX0_isExaminer := goodIn_r _ [6, 7, 41, 42, 43, 44, 45, 46, 47, 48, 49] (by decide +kernel) (by decide +kernel)
set_option maxRecDepth 20000 in
theorem gX8_load_X0_isExaminer : GoodIn wsX8_load (wsV RX8 72 RX0 yX0_isExaminer wsX0_isExaminer) := goodIn_app (goodIn_of _ (by decide +kernel)) ggX8_load_X0_isExaminer
set_option maxRecDepth 20000 in
theorem ggX8_load_X0_testsOf : GoodIn wsX8_load wsX0_testsOf := goodIn_r _ [11, 12, 13, 3, 4, 5, 6, 7, 41, 42, 43, 44, 45, 46, 47, 48, 49] (by decide +kernel) (by decide +kernel)
set_option maxRecDepth 20000 in
theorem gX8_load_X0_testsOf : GoodIn wsX8_load (wsV RX8 244 RX0 yX0_testsOf wsX0_testsOf) := goodIn_app (goodIn_of _ (by decide +kernel)) ggX8_load_X0_testsOf
set_option maxRecDepth 20000 in
theorem ggX8_load_X0_passesOf : GoodIn wsX8_load wsX0_passesOf := goodIn_r _ [17, 18, 13, 3, 4, 5, 6, 7, 41, 42, 43, 44, 45, 46, 47, 48, 49] (by decide +kernel) (by decide +kernel)
set_option maxRecDepth 20000 in
theorem gX8_load_X0_passesOf : GoodIn wsX8_load (wsV RX8 247 RX0 yX0_passesOf wsX0_passesOf) := goodIn_app (goodIn_of _ (by decide +kernel)) ggX8_load_X0_passesOf
set_option maxRecDepth 20000 in
theorem ggX8_load_X8_countBookedWith : GoodIn wsX8_load wsX8_countBookedWith := goodIn_r _ [23, 24, 25, 26, 27, 28, 29, 22, 30, 31, 32, 33, 34, 35, 36, 37, 38, 39, 40, 50, 51, 52, 53, 54, 55, 56, 57, 58, 59, 60, 61] (by decide +kernel) (by decide +kernel)
set_option maxRecDepth 20000 in
theorem gX8_load_X8_countBookedWith : GoodIn wsX8_load (wsV RX8 250 RX8 yX8_countBookedWith wsX8_countBookedWith) := goodIn_app (goodIn_of _ (by decide +kernel)) ggX8_load_X8_countBookedWith
theorem dX8_load_0 : decode cX8_load 0 = .ok (.aload_n 0, 1) := by decide +kernel
theorem dX8_load_1 : decode cX8_load 1 = .ok (.getfield 12, 3) := by decide +kernel
theorem dX8_load_4 : decode cX8_load 4 = .ok (.iload_n 1, 1) := by decide +kernel
theorem dX8_load_5 : decode cX8_load 5 = .ok (.invokevirtual 72, 3) := by decide +kernel
theorem dX8_load_8 : decode cX8_load 8 = .ok (.ifCond .ne 5, 3) := by decide +kernel
theorem dX8_load_11 : decode cX8_load 11 = .ok (.iconst (-1), 1) := by decide +kernel
theorem dX8_load_12 : decode cX8_load 12 = .ok (.ireturn, 1) := by decide +kernel
theorem dX8_load_13 : decode cX8_load 13 = .ok (.iload_n 2, 1) := by decide +kernel
theorem dX8_load_14 : decode cX8_load 14 = .ok (.tableswitch 50 0 2 #[26, 35, 44], 26) := by decide +kernel
theorem dX8_load_40 : decode cX8_load 40 = .ok (.aload_n 0, 1) := by decide +kernel
theorem dX8_load_41 : decode cX8_load 41 = .ok (.getfield 12, 3) := by decide +kernel
theorem dX8_load_44 : decode cX8_load 44 = .ok (.iload_n 1, 1) := by decide +kernel
theorem dX8_load_45 : decode cX8_load 45 = .ok (.invokevirtual 244, 3) := by decide +kernel
theorem dX8_load_48 : decode cX8_load 48 = .ok (.ireturn, 1) := by decide +kernel
theorem dX8_load_49 : decode cX8_load 49 = .ok (.aload_n 0, 1) := by decide +kernel
theorem dX8_load_50 : decode cX8_load 50 = .ok (.getfield 12, 3) := by decide +kernel
theorem dX8_load_53 : decode cX8_load 53 = .ok (.iload_n 1, 1) := by decide +kernel
theorem dX8_load_54 : decode cX8_load 54 = .ok (.invokevirtual 247, 3) := by decide +kernel
theorem dX8_load_57 : decode cX8_load 57 = .ok (.ireturn, 1) := by decide +kernel
theorem dX8_load_58 : decode cX8_load 58 = .ok (.aload_n 0, 1) := by decide +kernel
theorem dX8_load_59 : decode cX8_load 59 = .ok (.iload_n 1, 1) := by decide +kernel
theorem dX8_load_60 : decode cX8_load 60 = .ok (.invokevirtual 250, 3) := by decide +kernel
theorem dX8_load_63 : decode cX8_load 63 = .ok (.ireturn, 1) := by decide +kernel
theorem dX8_load_64 : decode cX8_load 64 = .ok (.iconst (-1), 1) := by decide +kernel
theorem dX8_load_65 : decode cX8_load 65 = .ok (.ireturn, 1) := by decide +kernel
theorem dX8_isWithin_0 : decode cX8_isWithin 0 = .ok (.iload_n 0, 1) := by decide +kernel
theorem dX8_isWithin_1 : decode cX8_isWithin 1 = .ok (.iload_n 1, 1) := by decide +kernel
theorem dX8_isWithin_2 : decode cX8_isWithin 2 = .ok (.if_icmp .lt 12, 3) := by decide +kernel
theorem dX8_isWithin_5 : decode cX8_isWithin 5 = .ok (.iload_n 0, 1) := by decide +kernel
theorem dX8_isWithin_6 : decode cX8_isWithin 6 = .ok (.iload_n 2, 1) := by decide +kernel
theorem dX8_isWithin_7 : decode cX8_isWithin 7 = .ok (.if_icmp .gt 7, 3) := by decide +kernel
theorem dX8_isWithin_10 : decode cX8_isWithin 10 = .ok (.iconst 1, 1) := by decide +kernel
theorem dX8_isWithin_11 : decode cX8_isWithin 11 = .ok (.goto 4, 3) := by decide +kernel
theorem dX8_isWithin_14 : decode cX8_isWithin 14 = .ok (.iconst 0, 1) := by decide +kernel
theorem dX8_isWithin_15 : decode cX8_isWithin 15 = .ok (.ireturn, 1) := by decide +kernel
theorem dX8_isDay_0 : decode cX8_isDay 0 = .ok (.iload_n 0, 1) := by decide +kernel
theorem dX8_isDay_1 : decode cX8_isDay 1 = .ok (.ifCond .lt 13, 3) := by decide +kernel
theorem dX8_isDay_4 : decode cX8_isDay 4 = .ok (.iload_n 0, 1) := by decide +kernel
theorem dX8_isDay_5 : decode cX8_isDay 5 = .ok (.bipush 60, 2) := by decide +kernel
theorem dX8_isDay_7 : decode cX8_isDay 7 = .ok (.if_icmp .ge 7, 3) := by decide +kernel
theorem dX8_isDay_10 : decode cX8_isDay 10 = .ok (.iconst 1, 1) := by decide +kernel
theorem dX8_isDay_11 : decode cX8_isDay 11 = .ok (.goto 4, 3) := by decide +kernel
theorem dX8_isDay_14 : decode cX8_isDay 14 = .ok (.iconst 0, 1) := by decide +kernel
theorem dX8_isDay_15 : decode cX8_isDay 15 = .ok (.ireturn, 1) := by decide +kernel
theorem dX8_slotOf_0 : decode cX8_slotOf 0 = .ok (.bipush 48, 2) := by decide +kernel
theorem dX8_slotOf_2 : decode cX8_slotOf 2 = .ok (.iload_n 0, 1) := by decide +kernel
theorem dX8_slotOf_3 : decode cX8_slotOf 3 = .ok (.imul, 1) := by decide +kernel
theorem dX8_slotOf_4 : decode cX8_slotOf 4 = .ok (.bipush 8, 2) := by decide +kernel
theorem dX8_slotOf_6 : decode cX8_slotOf 6 = .ok (.iload_n 1, 1) := by decide +kernel
theorem dX8_slotOf_7 : decode cX8_slotOf 7 = .ok (.imul, 1) := by decide +kernel
theorem dX8_slotOf_8 : decode cX8_slotOf 8 = .ok (.iadd, 1) := by decide +kernel
theorem dX8_slotOf_9 : decode cX8_slotOf 9 = .ok (.iload_n 2, 1) := by decide +kernel
theorem dX8_slotOf_10 : decode cX8_slotOf 10 = .ok (.iadd, 1) := by decide +kernel
theorem dX8_slotOf_11 : decode cX8_slotOf 11 = .ok (.ireturn, 1) := by decide +kernel
theorem dX8_dayOf_0 : decode cX8_dayOf 0 = .ok (.iload_n 0, 1) := by decide +kernel
theorem dX8_dayOf_1 : decode cX8_dayOf 1 = .ok (.bipush 48, 2) := by decide +kernel
theorem dX8_dayOf_3 : decode cX8_dayOf 3 = .ok (.idiv, 1) := by decide +kernel
theorem dX8_dayOf_4 : decode cX8_dayOf 4 = .ok (.ireturn, 1) := by decide +kernel
theorem dX8_hourOf_0 : decode cX8_hourOf 0 = .ok (.iload_n 0, 1) := by decide +kernel
theorem dX8_hourOf_1 : decode cX8_hourOf 1 = .ok (.bipush 48, 2) := by decide +kernel
theorem dX8_hourOf_3 : decode cX8_hourOf 3 = .ok (.irem, 1) := by decide +kernel
theorem dX8_hourOf_4 : decode cX8_hourOf 4 = .ok (.bipush 8, 2) := by decide +kernel
theorem dX8_hourOf_6 : decode cX8_hourOf 6 = .ok (.idiv, 1) := by decide +kernel
theorem dX8_hourOf_7 : decode cX8_hourOf 7 = .ok (.ireturn, 1) := by decide +kernel
theorem dX8_examinerOf_0 : decode cX8_examinerOf 0 = .ok (.iload_n 0, 1) := by decide +kernel
theorem dX8_examinerOf_1 : decode cX8_examinerOf 1 = .ok (.bipush 8, 2) := by decide +kernel
theorem dX8_examinerOf_3 : decode cX8_examinerOf 3 = .ok (.irem, 1) := by decide +kernel
theorem dX8_examinerOf_4 : decode cX8_examinerOf 4 = .ok (.ireturn, 1) := by decide +kernel
set_option maxRecDepth 20000 in
theorem ggX8_find_X8_isWithin : GoodIn wsX8_find wsX8_isWithin := goodIn_r _ [6] (by decide +kernel) (by decide +kernel)
set_option maxRecDepth 20000 in
theorem gX8_find_X8_isWithin : GoodIn wsX8_find (va_wsS RX8 76 yX8_isWithin wsX8_isWithin) := goodIn_app (goodIn_of _ (by decide +kernel)) ggX8_find_X8_isWithin
theorem dX8_find_0 : decode cX8_find 0 = .ok (.iload_n 1, 1) := by decide +kernel
theorem dX8_find_1 : decode cX8_find 1 = .ok (.iconst 0, 1) := by decide +kernel
theorem dX8_find_2 : decode cX8_find 2 = .ok (.aload_n 0, 1) := by decide +kernel
theorem dX8_find_3 : decode cX8_find 3 = .ok (.getfield 64, 3) := by decide +kernel
theorem dX8_find_6 : decode cX8_find 6 = .ok (.iconst 1, 1) := by decide +kernel
theorem dX8_find_7 : decode cX8_find 7 = .ok (.isub, 1) := by decide +kernel
theorem dX8_find_8 : decode cX8_find 8 = .ok (.invokestatic 76, 3) := by decide +kernel
theorem dX8_find_11 : decode cX8_find 11 = .ok (.ifCond .eq 12, 3) := by decide +kernel
theorem dX8_find_14 : decode cX8_find 14 = .ok (.aload_n 0, 1) := by decide +kernel
theorem dX8_find_15 : decode cX8_find 15 = .ok (.getfield 18, 3) := by decide +kernel
theorem dX8_find_18 : decode cX8_find 18 = .ok (.iload_n 1, 1) := by decide +kernel
theorem dX8_find_19 : decode cX8_find 19 = .ok (.aaload, 1) := by decide +kernel
theorem dX8_find_20 : decode cX8_find 20 = .ok (.goto 4, 3) := by decide +kernel
theorem dX8_find_23 : decode cX8_find 23 = .ok (.aconst_null, 1) := by decide +kernel
theorem dX8_find_24 : decode cX8_find 24 = .ok (.areturn, 1) := by decide +kernel
set_option maxRecDepth 20000 in
theorem ggX8_book_X0_setBooked : GoodIn wsX8_book wsX0_setBooked := goodIn_r _ [9, 10, 11, 12, 13, 8, 14, 37, 38, 39, 40, 41, 42, 43, 44, 45] (by decide +kernel) (by decide +kernel)
set_option maxRecDepth 20000 in
theorem gX8_book_X0_setBooked : GoodIn wsX8_book (wsV RX8 253 RX0 yX0_setBooked wsX0_setBooked) := goodIn_app (goodIn_of _ (by decide +kernel)) ggX8_book_X0_setBooked
theorem dX8_book_0 : decode cX8_book 0 = .ok (.aload_n 0, 1) := by decide +kernel
theorem dX8_book_1 : decode cX8_book 1 = .ok (.getfield 12, 3) := by decide +kernel
theorem dX8_book_4 : decode cX8_book 4 = .ok (.iload_n 2, 1) := by decide +kernel
theorem dX8_book_5 : decode cX8_book 5 = .ok (.aload_n 1, 1) := by decide +kernel
theorem dX8_book_6 : decode cX8_book 6 = .ok (.getfield 116, 3) := by decide +kernel
theorem dX8_book_9 : decode cX8_book 9 = .ok (.invokevirtual 253, 3) := by decide +kernel
theorem dX8_book_12 : decode cX8_book 12 = .ok (.aload_n 1, 1) := by decide +kernel
theorem dX8_book_13 : decode cX8_book 13 = .ok (.iload_n 2, 1) := by decide +kernel
theorem dX8_book_14 : decode cX8_book 14 = .ok (.putfield 143, 3) := by decide +kernel
theorem dX8_book_17 : decode cX8_book 17 = .ok (.aload_n 1, 1) := by decide +kernel
theorem dX8_book_18 : decode cX8_book 18 = .ok (.iconst 1, 1) := by decide +kernel
theorem dX8_book_19 : decode cX8_book 19 = .ok (.putfield 140, 3) := by decide +kernel
theorem dX8_book_22 : decode cX8_book 22 = .ok (.return_, 1) := by decide +kernel
set_option maxRecDepth 20000 in
theorem ggX8_release_X0_setBooked : GoodIn wsX8_release wsX0_setBooked := goodIn_r _ [8, 9, 10, 11, 12, 7, 13, 36, 37, 38, 39, 40, 41, 42, 43, 44] (by decide +kernel) (by decide +kernel)
set_option maxRecDepth 20000 in
theorem gX8_release_X0_setBooked : GoodIn wsX8_release (wsV RX8 253 RX0 yX0_setBooked wsX0_setBooked) := goodIn_app (goodIn_of _ (by decide +kernel)) ggX8_release_X0_setBooked
theorem dX8_release_0 : decode cX8_release 0 = .ok (.aload_n 0, 1) := by decide +kernel
theorem dX8_release_1 : decode cX8_release 1 = .ok (.getfield 12, 3) := by decide +kernel
theorem dX8_release_4 : decode cX8_release 4 = .ok (.aload_n 1, 1) := by decide +kernel
theorem dX8_release_5 : decode cX8_release 5 = .ok (.getfield 143, 3) := by decide +kernel
theorem dX8_release_8 : decode cX8_release 8 = .ok (.iconst (-1), 1) := by decide +kernel
theorem dX8_release_9 : decode cX8_release 9 = .ok (.invokevirtual 253, 3) := by decide +kernel
theorem dX8_release_12 : decode cX8_release 12 = .ok (.aload_n 1, 1) := by decide +kernel
theorem dX8_release_13 : decode cX8_release 13 = .ok (.iconst (-1), 1) := by decide +kernel
theorem dX8_release_14 : decode cX8_release 14 = .ok (.putfield 143, 3) := by decide +kernel
theorem dX8_release_17 : decode cX8_release 17 = .ok (.aload_n 1, 1) := by decide +kernel
theorem dX8_release_18 : decode cX8_release 18 = .ok (.iconst 0, 1) := by decide +kernel
theorem dX8_release_19 : decode cX8_release 19 = .ok (.putfield 140, 3) := by decide +kernel
theorem dX8_release_22 : decode cX8_release 22 = .ok (.return_, 1) := by decide +kernel
set_option maxRecDepth 20000 in
theorem ggX8_releaseMisplaced_X8_examinerOf : GoodIn wsX8_releaseMisplaced wsX8_examinerOf := goodIn_r _ [8] (by decide +kernel) (by decide +kernel)
set_option maxRecDepth 20000 in
theorem gX8_releaseMisplaced_X8_examinerOf : GoodIn wsX8_releaseMisplaced (va_wsS RX8 176 yX8_examinerOf wsX8_examinerOf) := goodIn_app (goodIn_of _ (by decide +kernel)) ggX8_releaseMisplaced_X8_examinerOf
set_option maxRecDepth 20000 in
theorem ggX8_releaseMisplaced_X8_isStillThere : GoodIn wsX8_releaseMisplaced wsX8_isStillThere := goodIn_r _ [12, 4, 13, 14, 15, 16, 7, 17, 5, 6, 8, 18, 19, 20, 21, 22, 23, 24, 25, 26, 27, 28, 29, 30, 31, 32, 33, 34, 35, 59, 60, 61, 62, 63, 64, 65, 66, 67, 68, 69, 70, 49, 50, 51, 52, 53, 54, 55, 56, 57, 58, 71, 72, 73, 74, 75, 76, 77, 78, 79] (by decide +kernel) (by decide +kernel)
set_option maxRecDepth 20000 in
theorem gX8_releaseMisplaced_X8_isStillThere : GoodIn wsX8_releaseMisplaced (wsV RX8 256 RX8 yX8_isStillThere wsX8_isStillThere) := goodIn_app (goodIn_of _ (by decide +kernel)) ggX8_releaseMisplaced_X8_isStillThere
set_option maxRecDepth 20000 in
theorem ggX8_releaseMisplaced_X8_release : GoodIn wsX8_releaseMisplaced wsX8_release := goodIn_r _ [39, 13, 4, 3, 40, 41, 42, 24, 43, 44, 45, 46, 47, 48, 49, 50, 51, 52, 53, 54, 55, 56, 57, 58, 59, 60, 61, 62, 63, 64, 65, 66, 67, 68, 69, 70, 71, 72, 73, 74, 75, 76, 77, 78, 79] (by decide +kernel) (by decide +kernel)
set_option maxRecDepth 20000 in
theorem gX8_releaseMisplaced_X8_release : GoodIn wsX8_releaseMisplaced (wsV RX8 146 RX8 yX8_release wsX8_release) := goodIn_app (goodIn_of _ (by decide +kernel)) ggX8_releaseMisplaced_X8_release
theorem dX8_releaseMisplaced_0 : decode cX8_releaseMisplaced 0 = .ok (.iconst 0, 1) := by decide +kernel
theorem dX8_releaseMisplaced_1 : decode cX8_releaseMisplaced 1 = .ok (.istore_n 2, 1) := by decide +kernel
theorem dX8_releaseMisplaced_2 : decode cX8_releaseMisplaced 2 = .ok (.iconst 0, 1) := by decide +kernel
theorem dX8_releaseMisplaced_3 : decode cX8_releaseMisplaced 3 = .ok (.istore_n 3, 1) := by decide +kernel
theorem dX8_releaseMisplaced_4 : decode cX8_releaseMisplaced 4 = .ok (.iload_n 3, 1) := by decide +kernel
theorem dX8_releaseMisplaced_5 : decode cX8_releaseMisplaced 5 = .ok (.aload_n 0, 1) := by decide +kernel
theorem dX8_releaseMisplaced_6 : decode cX8_releaseMisplaced 6 = .ok (.getfield 64, 3) := by decide +kernel
theorem dX8_releaseMisplaced_9 : decode cX8_releaseMisplaced 9 = .ok (.if_icmp .ge 56, 3) := by decide +kernel
theorem dX8_releaseMisplaced_12 : decode cX8_releaseMisplaced 12 = .ok (.aload_n 0, 1) := by decide +kernel
theorem dX8_releaseMisplaced_13 : decode cX8_releaseMisplaced 13 = .ok (.getfield 18, 3) := by decide +kernel
theorem dX8_releaseMisplaced_16 : decode cX8_releaseMisplaced 16 = .ok (.iload_n 3, 1) := by decide +kernel
theorem dX8_releaseMisplaced_17 : decode cX8_releaseMisplaced 17 = .ok (.aaload, 1) := by decide +kernel
theorem dX8_releaseMisplaced_18 : decode cX8_releaseMisplaced 18 = .ok (.astore 4, 2) := by decide +kernel
theorem dX8_releaseMisplaced_20 : decode cX8_releaseMisplaced 20 = .ok (.aload 4, 2) := by decide +kernel
theorem dX8_releaseMisplaced_22 : decode cX8_releaseMisplaced 22 = .ok (.getfield 140, 3) := by decide +kernel
theorem dX8_releaseMisplaced_25 : decode cX8_releaseMisplaced 25 = .ok (.iconst 1, 1) := by decide +kernel
theorem dX8_releaseMisplaced_26 : decode cX8_releaseMisplaced 26 = .ok (.if_icmp .ne 33, 3) := by decide +kernel
theorem dX8_releaseMisplaced_29 : decode cX8_releaseMisplaced 29 = .ok (.aload 4, 2) := by decide +kernel
theorem dX8_releaseMisplaced_31 : decode cX8_releaseMisplaced 31 = .ok (.getfield 143, 3) := by decide +kernel
theorem dX8_releaseMisplaced_34 : decode cX8_releaseMisplaced 34 = .ok (.invokestatic 176, 3) := by decide +kernel
theorem dX8_releaseMisplaced_37 : decode cX8_releaseMisplaced 37 = .ok (.iload_n 1, 1) := by decide +kernel
theorem dX8_releaseMisplaced_38 : decode cX8_releaseMisplaced 38 = .ok (.if_icmp .ne 21, 3) := by decide +kernel
theorem dX8_releaseMisplaced_41 : decode cX8_releaseMisplaced 41 = .ok (.aload_n 0, 1) := by decide +kernel
theorem dX8_releaseMisplaced_42 : decode cX8_releaseMisplaced 42 = .ok (.aload 4, 2) := by decide +kernel
theorem dX8_releaseMisplaced_44 : decode cX8_releaseMisplaced 44 = .ok (.invokevirtual 256, 3) := by decide +kernel
theorem dX8_releaseMisplaced_47 : decode cX8_releaseMisplaced 47 = .ok (.ifCond .ne 12, 3) := by decide +kernel
theorem dX8_releaseMisplaced_50 : decode cX8_releaseMisplaced 50 = .ok (.aload_n 0, 1) := by decide +kernel
theorem dX8_releaseMisplaced_51 : decode cX8_releaseMisplaced 51 = .ok (.aload 4, 2) := by decide +kernel
theorem dX8_releaseMisplaced_53 : decode cX8_releaseMisplaced 53 = .ok (.invokevirtual 146, 3) := by decide +kernel
theorem dX8_releaseMisplaced_56 : decode cX8_releaseMisplaced 56 = .ok (.iinc 2 1, 3) := by decide +kernel
theorem dX8_releaseMisplaced_59 : decode cX8_releaseMisplaced 59 = .ok (.iinc 3 1, 3) := by decide +kernel
theorem dX8_releaseMisplaced_62 : decode cX8_releaseMisplaced 62 = .ok (.goto (-58), 3) := by decide +kernel
theorem dX8_releaseMisplaced_65 : decode cX8_releaseMisplaced 65 = .ok (.iload_n 2, 1) := by decide +kernel
theorem dX8_releaseMisplaced_66 : decode cX8_releaseMisplaced 66 = .ok (.ireturn, 1) := by decide +kernel
set_option maxRecDepth 20000 in
theorem ggX8_isStillThere_X8_dayOf : GoodIn wsX8_isStillThere wsX8_dayOf := goodIn_r _ [7] (by decide +kernel) (by decide +kernel)
set_option maxRecDepth 20000 in
theorem gX8_isStillThere_X8_dayOf : GoodIn wsX8_isStillThere (va_wsS RX8 163 yX8_dayOf wsX8_dayOf) := goodIn_app (goodIn_of _ (by decide +kernel)) ggX8_isStillThere_X8_dayOf
set_option maxRecDepth 20000 in
theorem ggX8_isStillThere_X8_examinerOf : GoodIn wsX8_isStillThere wsX8_examinerOf := goodIn_r _ [10] (by decide +kernel) (by decide +kernel)
set_option maxRecDepth 20000 in
theorem gX8_isStillThere_X8_examinerOf : GoodIn wsX8_isStillThere (va_wsS RX8 176 yX8_examinerOf wsX8_examinerOf) := goodIn_app (goodIn_of _ (by decide +kernel)) ggX8_isStillThere_X8_examinerOf
set_option maxRecDepth 20000 in
theorem ggX8_isStillThere_X8_hourOf : GoodIn wsX8_isStillThere wsX8_hourOf := goodIn_r _ [13] (by decide +kernel) (by decide +kernel)
set_option maxRecDepth 20000 in
theorem gX8_isStillThere_X8_hourOf : GoodIn wsX8_isStillThere (va_wsS RX8 260 yX8_hourOf wsX8_hourOf) := goodIn_app (goodIn_of _ (by decide +kernel)) ggX8_isStillThere_X8_hourOf
set_option maxRecDepth 20000 in
theorem ggX8_isStillThere_X0_hasHour : GoodIn wsX8_isStillThere wsX0_hasHour := goodIn_r _ [18, 19, 20, 21, 17, 22, 23, 24, 25, 26, 27, 51, 52, 53, 54, 55, 56, 57, 58, 59] (by decide +kernel) (by decide +kernel)
set_option maxRecDepth 20000 in
theorem gX8_isStillThere_X0_hasHour : GoodIn wsX8_isStillThere (wsV RX8 201 RX0 yX0_hasHour wsX0_hasHour) := goodIn_app (goodIn_of _ (by decide +kernel)) ggX8_isStillThere_X0_hasHour
set_option maxRecDepth 20000 in
theorem ggX8_isStillThere_X0_townOf : GoodIn wsX8_isStillThere wsX0_townOf := goodIn_r _ [22, 23, 24, 51, 52, 53, 54, 55, 56, 57, 58, 59] (by decide +kernel) (by decide +kernel)
set_option maxRecDepth 20000 in
theorem gX8_isStillThere_X0_townOf : GoodIn wsX8_isStillThere (wsV RX8 263 RX0 yX0_townOf wsX0_townOf) := goodIn_app (goodIn_of _ (by decide +kernel)) ggX8_isStillThere_X0_townOf
theorem dX8_isStillThere_0 : decode cX8_isStillThere 0 = .ok (.aload_n 1, 1) := by decide +kernel
theorem dX8_isStillThere_1 : decode cX8_isStillThere 1 = .ok (.getfield 143, 3) := by decide +kernel
theorem dX8_isStillThere_4 : decode cX8_isStillThere 4 = .ok (.invokestatic 163, 3) := by decide +kernel
theorem dX8_isStillThere_7 : decode cX8_isStillThere 7 = .ok (.istore_n 2, 1) := by decide +kernel
theorem dX8_isStillThere_8 : decode cX8_isStillThere 8 = .ok (.aload_n 1, 1) := by decide +kernel
theorem dX8_isStillThere_9 : decode cX8_isStillThere 9 = .ok (.getfield 143, 3) := by decide +kernel
theorem dX8_isStillThere_12 : decode cX8_isStillThere 12 = .ok (.invokestatic 176, 3) := by decide +kernel
theorem dX8_isStillThere_15 : decode cX8_isStillThere 15 = .ok (.istore_n 3, 1) := by decide +kernel
theorem dX8_isStillThere_16 : decode cX8_isStillThere 16 = .ok (.aload_n 0, 1) := by decide +kernel
theorem dX8_isStillThere_17 : decode cX8_isStillThere 17 = .ok (.getfield 12, 3) := by decide +kernel
theorem dX8_isStillThere_20 : decode cX8_isStillThere 20 = .ok (.iload_n 2, 1) := by decide +kernel
theorem dX8_isStillThere_21 : decode cX8_isStillThere 21 = .ok (.aload_n 1, 1) := by decide +kernel
theorem dX8_isStillThere_22 : decode cX8_isStillThere 22 = .ok (.getfield 143, 3) := by decide +kernel
theorem dX8_isStillThere_25 : decode cX8_isStillThere 25 = .ok (.invokestatic 260, 3) := by decide +kernel
theorem dX8_isStillThere_28 : decode cX8_isStillThere 28 = .ok (.iload_n 3, 1) := by decide +kernel
theorem dX8_isStillThere_29 : decode cX8_isStillThere 29 = .ok (.invokevirtual 201, 3) := by decide +kernel
theorem dX8_isStillThere_32 : decode cX8_isStillThere 32 = .ok (.ifCond .eq 23, 3) := by decide +kernel
theorem dX8_isStillThere_35 : decode cX8_isStillThere 35 = .ok (.aload_n 0, 1) := by decide +kernel
theorem dX8_isStillThere_36 : decode cX8_isStillThere 36 = .ok (.getfield 12, 3) := by decide +kernel
theorem dX8_isStillThere_39 : decode cX8_isStillThere 39 = .ok (.iload_n 3, 1) := by decide +kernel
theorem dX8_isStillThere_40 : decode cX8_isStillThere 40 = .ok (.iload_n 2, 1) := by decide +kernel
theorem dX8_isStillThere_41 : decode cX8_isStillThere 41 = .ok (.invokevirtual 263, 3) := by decide +kernel
theorem dX8_isStillThere_44 : decode cX8_isStillThere 44 = .ok (.aload_n 1, 1) := by decide +kernel
theorem dX8_isStillThere_45 : decode cX8_isStillThere 45 = .ok (.getfield 97, 3) := by decide +kernel
theorem dX8_isStillThere_48 : decode cX8_isStillThere 48 = .ok (.if_icmp .ne 7, 3) := by decide +kernel
theorem dX8_isStillThere_51 : decode cX8_isStillThere 51 = .ok (.iconst 1, 1) := by decide +kernel
theorem dX8_isStillThere_52 : decode cX8_isStillThere 52 = .ok (.goto 4, 3) := by decide +kernel
theorem dX8_isStillThere_55 : decode cX8_isStillThere 55 = .ok (.iconst 0, 1) := by decide +kernel
theorem dX8_isStillThere_56 : decode cX8_isStillThere 56 = .ok (.ireturn, 1) := by decide +kernel
set_option maxRecDepth 20000 in
theorem ggX8_rankOf_X5_rankBy : GoodIn wsX8_rankOf wsX5_rankBy := goodIn_r _ [14, 15, 16, 17, 18, 19, 20, 13, 21, 22, 23, 24, 25, 26, 58, 59, 60, 61, 62, 63] (by decide +kernel) (by decide +kernel)
set_option maxRecDepth 20000 in
theorem gX8_rankOf_X5_rankBy : GoodIn wsX8_rankOf (wsV RX8 269 RX5 yX5_rankBy wsX5_rankBy) := goodIn_app (goodIn_of _ (by decide +kernel)) ggX8_rankOf_X5_rankBy
theorem dX8_rankOf_0 : decode cX8_rankOf 0 = .ok (.aload_n 0, 1) := by decide +kernel
theorem dX8_rankOf_1 : decode cX8_rankOf 1 = .ok (.getfield 31, 3) := by decide +kernel
theorem dX8_rankOf_4 : decode cX8_rankOf 4 = .ok (.iconst 0, 1) := by decide +kernel
theorem dX8_rankOf_5 : decode cX8_rankOf 5 = .ok (.aload_n 1, 1) := by decide +kernel
theorem dX8_rankOf_6 : decode cX8_rankOf 6 = .ok (.getfield 100, 3) := by decide +kernel
theorem dX8_rankOf_9 : decode cX8_rankOf 9 = .ok (.iastore, 1) := by decide +kernel
theorem dX8_rankOf_10 : decode cX8_rankOf 10 = .ok (.aload_n 0, 1) := by decide +kernel
theorem dX8_rankOf_11 : decode cX8_rankOf 11 = .ok (.getfield 31, 3) := by decide +kernel
theorem dX8_rankOf_14 : decode cX8_rankOf 14 = .ok (.iconst 1, 1) := by decide +kernel
theorem dX8_rankOf_15 : decode cX8_rankOf 15 = .ok (.aload_n 1, 1) := by decide +kernel
theorem dX8_rankOf_16 : decode cX8_rankOf 16 = .ok (.getfield 97, 3) := by decide +kernel
theorem dX8_rankOf_19 : decode cX8_rankOf 19 = .ok (.iastore, 1) := by decide +kernel
theorem dX8_rankOf_20 : decode cX8_rankOf 20 = .ok (.aload_n 0, 1) := by decide +kernel
theorem dX8_rankOf_21 : decode cX8_rankOf 21 = .ok (.getfield 31, 3) := by decide +kernel
theorem dX8_rankOf_24 : decode cX8_rankOf 24 = .ok (.iconst 2, 1) := by decide +kernel
theorem dX8_rankOf_25 : decode cX8_rankOf 25 = .ok (.aload_n 0, 1) := by decide +kernel
theorem dX8_rankOf_26 : decode cX8_rankOf 26 = .ok (.getfield 12, 3) := by decide +kernel
theorem dX8_rankOf_29 : decode cX8_rankOf 29 = .ok (.getfield 80, 3) := by decide +kernel
theorem dX8_rankOf_32 : decode cX8_rankOf 32 = .ok (.aload_n 1, 1) := by decide +kernel
theorem dX8_rankOf_33 : decode cX8_rankOf 33 = .ok (.getfield 266, 3) := by decide +kernel
theorem dX8_rankOf_36 : decode cX8_rankOf 36 = .ok (.isub, 1) := by decide +kernel
theorem dX8_rankOf_37 : decode cX8_rankOf 37 = .ok (.iastore, 1) := by decide +kernel
theorem dX8_rankOf_38 : decode cX8_rankOf 38 = .ok (.aload_n 0, 1) := by decide +kernel
theorem dX8_rankOf_39 : decode cX8_rankOf 39 = .ok (.getfield 31, 3) := by decide +kernel
theorem dX8_rankOf_42 : decode cX8_rankOf 42 = .ok (.iconst 3, 1) := by decide +kernel
theorem dX8_rankOf_43 : decode cX8_rankOf 43 = .ok (.aload_n 1, 1) := by decide +kernel
theorem dX8_rankOf_44 : decode cX8_rankOf 44 = .ok (.getfield 183, 3) := by decide +kernel
theorem dX8_rankOf_47 : decode cX8_rankOf 47 = .ok (.iastore, 1) := by decide +kernel
theorem dX8_rankOf_48 : decode cX8_rankOf 48 = .ok (.aload_n 0, 1) := by decide +kernel
theorem dX8_rankOf_49 : decode cX8_rankOf 49 = .ok (.getfield 31, 3) := by decide +kernel
theorem dX8_rankOf_52 : decode cX8_rankOf 52 = .ok (.iconst 4, 1) := by decide +kernel
theorem dX8_rankOf_53 : decode cX8_rankOf 53 = .ok (.aload_n 1, 1) := by decide +kernel
theorem dX8_rankOf_54 : decode cX8_rankOf 54 = .ok (.getfield 106, 3) := by decide +kernel
theorem dX8_rankOf_57 : decode cX8_rankOf 57 = .ok (.aload_n 0, 1) := by decide +kernel
theorem dX8_rankOf_58 : decode cX8_rankOf 58 = .ok (.getfield 12, 3) := by decide +kernel
theorem dX8_rankOf_61 : decode cX8_rankOf 61 = .ok (.getfield 80, 3) := by decide +kernel
theorem dX8_rankOf_64 : decode cX8_rankOf 64 = .ok (.isub, 1) := by decide +kernel
theorem dX8_rankOf_65 : decode cX8_rankOf 65 = .ok (.iastore, 1) := by decide +kernel
theorem dX8_rankOf_66 : decode cX8_rankOf 66 = .ok (.aload_n 0, 1) := by decide +kernel
theorem dX8_rankOf_67 : decode cX8_rankOf 67 = .ok (.getfield 31, 3) := by decide +kernel
theorem dX8_rankOf_70 : decode cX8_rankOf 70 = .ok (.iconst 5, 1) := by decide +kernel
theorem dX8_rankOf_71 : decode cX8_rankOf 71 = .ok (.aload_n 0, 1) := by decide +kernel
theorem dX8_rankOf_72 : decode cX8_rankOf 72 = .ok (.getfield 12, 3) := by decide +kernel
theorem dX8_rankOf_75 : decode cX8_rankOf 75 = .ok (.getfield 80, 3) := by decide +kernel
theorem dX8_rankOf_78 : decode cX8_rankOf 78 = .ok (.iastore, 1) := by decide +kernel
theorem dX8_rankOf_79 : decode cX8_rankOf 79 = .ok (.aload_n 0, 1) := by decide +kernel
theorem dX8_rankOf_80 : decode cX8_rankOf 80 = .ok (.getfield 57, 3) := by decide +kernel
theorem dX8_rankOf_83 : decode cX8_rankOf 83 = .ok (.aload_n 0, 1) := by decide +kernel
theorem dX8_rankOf_84 : decode cX8_rankOf 84 = .ok (.getfield 31, 3) := by decide +kernel
theorem dX8_rankOf_87 : decode cX8_rankOf 87 = .ok (.invokevirtual 269, 3) := by decide +kernel
theorem dX8_rankOf_90 : decode cX8_rankOf 90 = .ok (.ireturn, 1) := by decide +kernel
set_option maxRecDepth 20000 in
theorem ggX8_lineUpWaiting_X2_clear : GoodIn wsX8_lineUpWaiting wsX2_clear := goodIn_r _ [9, 10, 70, 71, 72] (by decide +kernel) (by decide +kernel)
set_option maxRecDepth 20000 in
theorem gX8_lineUpWaiting_X2_clear : GoodIn wsX8_lineUpWaiting (wsV RX8 160 RX2 yX2_clear wsX2_clear) := goodIn_app (goodIn_of _ (by decide +kernel)) ggX8_lineUpWaiting_X2_clear
set_option maxRecDepth 20000 in
theorem ggX8_lineUpWaiting_X8_rankOf : GoodIn wsX8_lineUpWaiting wsX8_rankOf := goodIn_r _ [15, 16, 17, 18, 19, 20, 21, 22, 23, 24, 25, 26, 27, 28, 29, 30, 31, 32, 33, 34, 35, 36, 37, 38, 39, 40, 41, 48, 49, 50, 51, 52, 53, 54, 55, 56, 57, 58, 59, 60, 61, 62, 63, 64, 65, 66, 67, 68, 69, 73, 74, 75, 76, 77, 78, 79, 80, 81, 82, 83, 84, 85, 86, 87] (by decide +kernel) (by decide +kernel)
set_option maxRecDepth 20000 in
theorem gX8_lineUpWaiting_X8_rankOf : GoodIn wsX8_lineUpWaiting (wsV RX8 166 RX8 yX8_rankOf wsX8_rankOf) := goodIn_app (goodIn_of _ (by decide +kernel)) ggX8_lineUpWaiting_X8_rankOf
set_option maxRecDepth 20000 in
theorem ggX8_lineUpWaiting_X2_add : GoodIn wsX8_lineUpWaiting wsX2_add := goodIn_r _ [45, 10, 46, 47, 70, 71, 72] (by decide +kernel) (by decide +kernel)
set_option maxRecDepth 20000 in
theorem gX8_lineUpWaiting_X2_add : GoodIn wsX8_lineUpWaiting (wsV RX8 170 RX2 yX2_add wsX2_add) := goodIn_app (goodIn_of _ (by decide +kernel)) ggX8_lineUpWaiting_X2_add
theorem dX8_lineUpWaiting_0 : decode cX8_lineUpWaiting 0 = .ok (.aload_n 0, 1) := by decide +kernel
theorem dX8_lineUpWaiting_1 : decode cX8_lineUpWaiting 1 = .ok (.getfield 25, 3) := by decide +kernel
theorem dX8_lineUpWaiting_4 : decode cX8_lineUpWaiting 4 = .ok (.invokevirtual 160, 3) := by decide +kernel
theorem dX8_lineUpWaiting_7 : decode cX8_lineUpWaiting 7 = .ok (.iconst 0, 1) := by decide +kernel
theorem dX8_lineUpWaiting_8 : decode cX8_lineUpWaiting 8 = .ok (.istore_n 1, 1) := by decide +kernel
theorem dX8_lineUpWaiting_9 : decode cX8_lineUpWaiting 9 = .ok (.iload_n 1, 1) := by decide +kernel
theorem dX8_lineUpWaiting_10 : decode cX8_lineUpWaiting 10 = .ok (.aload_n 0, 1) := by decide +kernel
theorem dX8_lineUpWaiting_11 : decode cX8_lineUpWaiting 11 = .ok (.getfield 64, 3) := by decide +kernel
theorem dX8_lineUpWaiting_14 : decode cX8_lineUpWaiting 14 = .ok (.if_icmp .ge 39, 3) := by decide +kernel
theorem dX8_lineUpWaiting_17 : decode cX8_lineUpWaiting 17 = .ok (.aload_n 0, 1) := by decide +kernel
theorem dX8_lineUpWaiting_18 : decode cX8_lineUpWaiting 18 = .ok (.getfield 18, 3) := by decide +kernel
theorem dX8_lineUpWaiting_21 : decode cX8_lineUpWaiting 21 = .ok (.iload_n 1, 1) := by decide +kernel
theorem dX8_lineUpWaiting_22 : decode cX8_lineUpWaiting 22 = .ok (.aaload, 1) := by decide +kernel
theorem dX8_lineUpWaiting_23 : decode cX8_lineUpWaiting 23 = .ok (.getfield 140, 3) := by decide +kernel
theorem dX8_lineUpWaiting_26 : decode cX8_lineUpWaiting 26 = .ok (.ifCond .ne 21, 3) := by decide +kernel
theorem dX8_lineUpWaiting_29 : decode cX8_lineUpWaiting 29 = .ok (.aload_n 0, 1) := by decide +kernel
theorem dX8_lineUpWaiting_30 : decode cX8_lineUpWaiting 30 = .ok (.getfield 25, 3) := by decide +kernel
theorem dX8_lineUpWaiting_33 : decode cX8_lineUpWaiting 33 = .ok (.iload_n 1, 1) := by decide +kernel
theorem dX8_lineUpWaiting_34 : decode cX8_lineUpWaiting 34 = .ok (.aload_n 0, 1) := by decide +kernel
theorem dX8_lineUpWaiting_35 : decode cX8_lineUpWaiting 35 = .ok (.aload_n 0, 1) := by decide +kernel
theorem dX8_lineUpWaiting_36 : decode cX8_lineUpWaiting 36 = .ok (.getfield 18, 3) := by decide +kernel
theorem dX8_lineUpWaiting_39 : decode cX8_lineUpWaiting 39 = .ok (.iload_n 1, 1) := by decide +kernel
theorem dX8_lineUpWaiting_40 : decode cX8_lineUpWaiting 40 = .ok (.aaload, 1) := by decide +kernel
theorem dX8_lineUpWaiting_41 : decode cX8_lineUpWaiting 41 = .ok (.invokevirtual 166, 3) := by decide +kernel
theorem dX8_lineUpWaiting_44 : decode cX8_lineUpWaiting 44 = .ok (.invokevirtual 170, 3) := by decide +kernel
theorem dX8_lineUpWaiting_47 : decode cX8_lineUpWaiting 47 = .ok (.iinc 1 1, 3) := by decide +kernel
theorem dX8_lineUpWaiting_50 : decode cX8_lineUpWaiting 50 = .ok (.goto (-41), 3) := by decide +kernel
theorem dX8_lineUpWaiting_53 : decode cX8_lineUpWaiting 53 = .ok (.return_, 1) := by decide +kernel
set_option maxRecDepth 20000 in
theorem ggX8_placeAmongWaiting_X8_lineUpWaiting : GoodIn wsX8_placeAmongWaiting wsX8_lineUpWaiting := goodIn_r _ [7, 1, 8, 9, 10, 11, 12, 13, 14, 15, 16, 17, 18, 19, 6, 20, 21, 22, 23, 24, 25, 26, 27, 28, 29, 30, 31, 32, 33, 34, 35, 36, 37, 38, 39, 40, 41, 42, 43, 44, 45, 46, 47, 48, 49, 50, 51, 52, 57, 58, 59, 60, 61, 62, 63, 64, 65, 66, 67, 68, 69, 70, 71, 72, 73, 74, 75, 76, 77, 78, 79, 80, 81, 82, 83, 84, 85, 86, 87, 88, 89, 90, 91, 92, 93, 94, 95, 96] (by decide +kernel) (by decide +kernel)
set_option maxRecDepth 20000 in
theorem gX8_placeAmongWaiting_X8_lineUpWaiting : GoodIn wsX8_placeAmongWaiting (wsV RX8 130 RX8 yX8_lineUpWaiting wsX8_lineUpWaiting) := goodIn_app (goodIn_of _ (by decide +kernel)) ggX8_placeAmongWaiting_X8_lineUpWaiting
set_option maxRecDepth 20000 in
theorem ggX8_placeAmongWaiting_X2_placeOf : GoodIn wsX8_placeAmongWaiting wsX2_placeOf := goodIn_r _ [56, 16, 52, 79, 80, 81] (by decide +kernel) (by decide +kernel)
set_option maxRecDepth 20000 in
theorem gX8_placeAmongWaiting_X2_placeOf : GoodIn wsX8_placeAmongWaiting (wsV RX8 273 RX2 yX2_placeOf wsX2_placeOf) := goodIn_app (goodIn_of _ (by decide +kernel)) ggX8_placeAmongWaiting_X2_placeOf
theorem dX8_placeAmongWaiting_0 : decode cX8_placeAmongWaiting 0 = .ok (.aload_n 0, 1) := by decide +kernel
theorem dX8_placeAmongWaiting_1 : decode cX8_placeAmongWaiting 1 = .ok (.invokevirtual 130, 3) := by decide +kernel
theorem dX8_placeAmongWaiting_4 : decode cX8_placeAmongWaiting 4 = .ok (.aload_n 0, 1) := by decide +kernel
theorem dX8_placeAmongWaiting_5 : decode cX8_placeAmongWaiting 5 = .ok (.getfield 25, 3) := by decide +kernel
theorem dX8_placeAmongWaiting_8 : decode cX8_placeAmongWaiting 8 = .ok (.aload_n 1, 1) := by decide +kernel
theorem dX8_placeAmongWaiting_9 : decode cX8_placeAmongWaiting 9 = .ok (.getfield 116, 3) := by decide +kernel
theorem dX8_placeAmongWaiting_12 : decode cX8_placeAmongWaiting 12 = .ok (.invokevirtual 273, 3) := by decide +kernel
theorem dX8_placeAmongWaiting_15 : decode cX8_placeAmongWaiting 15 = .ok (.ireturn, 1) := by decide +kernel
set_option maxRecDepth 20000 in
theorem ggX8_dealLine_X0_leastFree : GoodIn wsX8_dealLine wsX0_leastFree := goodIn_r _ [18, 19, 20, 10, 11, 12, 21, 22, 23, 17, 24, 25, 26, 27, 28, 29, 30, 31, 32, 33, 34, 35, 36, 37, 38, 39, 40, 41, 42, 43, 44, 45, 46, 47, 48, 49, 50, 51, 52, 53, 54, 55, 56, 57, 58, 59, 60, 97, 98, 99, 100, 101, 102, 103, 104, 105] (by decide +kernel) (by decide +kernel)
set_option maxRecDepth 20000 in
theorem gX8_dealLine_X0_leastFree : GoodIn wsX8_dealLine (wsV RX8 284 RX0 yX0_leastFree wsX0_leastFree) := goodIn_app (goodIn_of _ (by decide +kernel)) ggX8_dealLine_X0_leastFree
set_option maxRecDepth 20000 in
theorem ggX8_dealLine_X8_book : GoodIn wsX8_dealLine wsX8_book := goodIn_r _ [64, 5, 65, 66, 67, 68, 69, 70, 17, 71, 42, 44, 45, 46, 47, 72, 73, 74, 75, 76, 77, 78, 79, 80, 81, 85, 86, 87, 88, 89, 90, 91, 92, 93, 94, 95, 96, 97, 98, 99, 100, 101, 102, 103, 104, 105] (by decide +kernel) (by decide +kernel)
set_option maxRecDepth 20000 in
theorem gX8_dealLine_X8_book : GoodIn wsX8_dealLine (wsV RX8 287 RX8 yX8_book wsX8_book) := goodIn_app (goodIn_of _ (by decide +kernel)) ggX8_dealLine_X8_book
theorem dX8_dealLine_0 : decode cX8_dealLine 0 = .ok (.iconst 0, 1) := by decide +kernel
theorem dX8_dealLine_1 : decode cX8_dealLine 1 = .ok (.istore_n 1, 1) := by decide +kernel
theorem dX8_dealLine_2 : decode cX8_dealLine 2 = .ok (.iconst 0, 1) := by decide +kernel
theorem dX8_dealLine_3 : decode cX8_dealLine 3 = .ok (.istore_n 2, 1) := by decide +kernel
theorem dX8_dealLine_4 : decode cX8_dealLine 4 = .ok (.iload_n 2, 1) := by decide +kernel
theorem dX8_dealLine_5 : decode cX8_dealLine 5 = .ok (.aload_n 0, 1) := by decide +kernel
theorem dX8_dealLine_6 : decode cX8_dealLine 6 = .ok (.getfield 25, 3) := by decide +kernel
theorem dX8_dealLine_9 : decode cX8_dealLine 9 = .ok (.getfield 173, 3) := by decide +kernel
theorem dX8_dealLine_12 : decode cX8_dealLine 12 = .ok (.if_icmp .ge 68, 3) := by decide +kernel
theorem dX8_dealLine_15 : decode cX8_dealLine 15 = .ok (.aload_n 0, 1) := by decide +kernel
theorem dX8_dealLine_16 : decode cX8_dealLine 16 = .ok (.getfield 18, 3) := by decide +kernel
theorem dX8_dealLine_19 : decode cX8_dealLine 19 = .ok (.aload_n 0, 1) := by decide +kernel
theorem dX8_dealLine_20 : decode cX8_dealLine 20 = .ok (.getfield 25, 3) := by decide +kernel
theorem dX8_dealLine_23 : decode cX8_dealLine 23 = .ok (.getfield 276, 3) := by decide +kernel
theorem dX8_dealLine_26 : decode cX8_dealLine 26 = .ok (.iload_n 2, 1) := by decide +kernel
theorem dX8_dealLine_27 : decode cX8_dealLine 27 = .ok (.iaload, 1) := by decide +kernel
theorem dX8_dealLine_28 : decode cX8_dealLine 28 = .ok (.aaload, 1) := by decide +kernel
theorem dX8_dealLine_29 : decode cX8_dealLine 29 = .ok (.astore_n 3, 1) := by decide +kernel
theorem dX8_dealLine_30 : decode cX8_dealLine 30 = .ok (.aload_n 0, 1) := by decide +kernel
theorem dX8_dealLine_31 : decode cX8_dealLine 31 = .ok (.getfield 12, 3) := by decide +kernel
theorem dX8_dealLine_34 : decode cX8_dealLine 34 = .ok (.aload_n 3, 1) := by decide +kernel
theorem dX8_dealLine_35 : decode cX8_dealLine 35 = .ok (.getfield 97, 3) := by decide +kernel
theorem dX8_dealLine_38 : decode cX8_dealLine 38 = .ok (.aload_n 3, 1) := by decide +kernel
theorem dX8_dealLine_39 : decode cX8_dealLine 39 = .ok (.getfield 109, 3) := by decide +kernel
theorem dX8_dealLine_42 : decode cX8_dealLine 42 = .ok (.aload_n 3, 1) := by decide +kernel
theorem dX8_dealLine_43 : decode cX8_dealLine 43 = .ok (.getfield 103, 3) := by decide +kernel
theorem dX8_dealLine_46 : decode cX8_dealLine 46 = .ok (.invokestatic 279, 3) := by decide +kernel
theorem dX8_dealLine_49 : decode cX8_dealLine 49 = .ok (.aload_n 3, 1) := by decide +kernel
theorem dX8_dealLine_50 : decode cX8_dealLine 50 = .ok (.getfield 106, 3) := by decide +kernel
theorem dX8_dealLine_53 : decode cX8_dealLine 53 = .ok (.invokevirtual 284, 3) := by decide +kernel
theorem dX8_dealLine_56 : decode cX8_dealLine 56 = .ok (.istore 4, 2) := by decide +kernel
theorem dX8_dealLine_58 : decode cX8_dealLine 58 = .ok (.iload 4, 2) := by decide +kernel
theorem dX8_dealLine_60 : decode cX8_dealLine 60 = .ok (.iconst (-1), 1) := by decide +kernel
theorem dX8_dealLine_61 : decode cX8_dealLine 61 = .ok (.if_icmp .eq 13, 3) := by decide +kernel
theorem dX8_dealLine_64 : decode cX8_dealLine 64 = .ok (.aload_n 0, 1) := by decide +kernel
theorem dX8_dealLine_65 : decode cX8_dealLine 65 = .ok (.aload_n 3, 1) := by decide +kernel
theorem dX8_dealLine_66 : decode cX8_dealLine 66 = .ok (.iload 4, 2) := by decide +kernel
theorem dX8_dealLine_68 : decode cX8_dealLine 68 = .ok (.invokevirtual 287, 3) := by decide +kernel
theorem dX8_dealLine_71 : decode cX8_dealLine 71 = .ok (.iinc 1 1, 3) := by decide +kernel
theorem dX8_dealLine_74 : decode cX8_dealLine 74 = .ok (.iinc 2 1, 3) := by decide +kernel
theorem dX8_dealLine_77 : decode cX8_dealLine 77 = .ok (.goto (-73), 3) := by decide +kernel
theorem dX8_dealLine_80 : decode cX8_dealLine 80 = .ok (.iload_n 1, 1) := by decide +kernel
theorem dX8_dealLine_81 : decode cX8_dealLine 81 = .ok (.ireturn, 1) := by decide +kernel
set_option maxRecDepth 20000 in
theorem ggX8_moveUp_X8_lineUpSooner : GoodIn wsX8_moveUp wsX8_lineUpSooner := goodIn_r _ [8, 9, 10, 11, 12, 13, 14, 15, 16, 17, 18, 19, 20, 21, 22, 7, 23, 24, 25, 26, 1, 27, 28, 29, 30, 31, 32, 33, 34, 35, 36, 37, 38, 39, 40, 41, 42, 43, 44, 45, 46, 47, 48, 49, 50, 51, 52, 53, 54, 114, 115, 116, 117, 118, 119, 120, 121, 122, 123, 124, 125, 126, 127, 128, 129, 130, 131, 132, 133, 134, 135, 136, 137, 138, 139, 140, 141, 142, 143, 144, 145, 146, 147, 148, 149, 150, 151, 152, 153] (by decide +kernel) (by decide +kernel)
set_option maxRecDepth 20000 in
theorem gX8_moveUp_X8_lineUpSooner : GoodIn wsX8_moveUp (wsV RX8 291 RX8 yX8_lineUpSooner wsX8_lineUpSooner) := goodIn_app (goodIn_of _ (by decide +kernel)) ggX8_moveUp_X8_lineUpSooner
set_option maxRecDepth 20000 in
theorem ggX8_moveUp_X0_isFree : GoodIn wsX8_moveUp wsX0_isFree := goodIn_r _ [59, 60, 61, 62, 63, 64, 65, 58, 66, 67, 7, 68, 69, 70, 71, 72, 73, 74, 75, 76, 77, 78, 79, 80, 81, 82, 83, 84, 85, 139, 140, 141, 142, 143, 144, 145, 146, 147] (by decide +kernel) (by decide +kernel)
set_option maxRecDepth 20000 in
theorem gX8_moveUp_X0_isFree : GoodIn wsX8_moveUp (wsV RX8 294 RX0 yX0_isFree wsX0_isFree) := goodIn_app (goodIn_of _ (by decide +kernel)) ggX8_moveUp_X0_isFree
set_option maxRecDepth 20000 in
theorem ggX8_moveUp_X8_firstToMove : GoodIn wsX8_moveUp wsX8_firstToMove := goodIn_r _ [89, 9, 90, 11, 91, 2, 92, 93, 94, 7, 95, 96, 97, 30, 1, 26, 98, 67, 68, 99, 71, 72, 100, 78, 79, 58, 80, 81, 82, 114, 115, 116, 117, 118, 119, 120, 121, 122, 123, 136, 137, 138, 124, 125, 126, 127, 128, 129, 130, 131, 132, 133, 134, 135, 139, 140, 141, 142, 143, 144, 145, 146, 147] (by decide +kernel) (by decide +kernel)
set_option maxRecDepth 20000 in
theorem gX8_moveUp_X8_firstToMove : GoodIn wsX8_moveUp (wsV RX8 297 RX8 yX8_firstToMove wsX8_firstToMove) := goodIn_app (goodIn_of _ (by decide +kernel)) ggX8_moveUp_X8_firstToMove
set_option maxRecDepth 20000 in
theorem ggX8_moveUp_X8_release : GoodIn wsX8_moveUp wsX8_release := goodIn_r _ [104, 1, 2, 12, 105, 106, 107, 58, 108, 60, 63, 64, 65, 66, 114, 115, 116, 117, 118, 119, 120, 121, 122, 123, 124, 125, 126, 127, 128, 129, 130, 131, 132, 133, 134, 135, 139, 140, 141, 142, 143, 144, 145, 146, 147] (by decide +kernel) (by decide +kernel)
set_option maxRecDepth 20000 in
theorem gX8_moveUp_X8_release : GoodIn wsX8_moveUp (wsV RX8 146 RX8 yX8_release wsX8_release) := goodIn_app (goodIn_of _ (by decide +kernel)) ggX8_moveUp_X8_release
set_option maxRecDepth 20000 in
theorem ggX8_moveUp_X8_book : GoodIn wsX8_moveUp wsX8_book := goodIn_r _ [112, 1, 113, 2, 12, 105, 106, 107, 58, 108, 60, 63, 64, 65, 66, 114, 115, 116, 117, 118, 119, 120, 121, 122, 123, 124, 125, 126, 127, 128, 129, 130, 131, 132, 133, 134, 135, 139, 140, 141, 142, 143, 144, 145, 146, 147] (by decide +kernel) (by decide +kernel)
set_option maxRecDepth 20000 in
theorem gX8_moveUp_X8_book : GoodIn wsX8_moveUp (wsV RX8 287 RX8 yX8_book wsX8_book) := goodIn_app (goodIn_of _ (by decide +kernel)) ggX8_moveUp_X8_book
theorem dX8_moveUp_0 : decode cX8_moveUp 0 = .ok (.aload_n 0, 1) := by decide +kernel
theorem dX8_moveUp_1 : decode cX8_moveUp 1 = .ok (.invokevirtual 291, 3) := by decide +kernel
theorem dX8_moveUp_4 : decode cX8_moveUp 4 = .ok (.iconst 0, 1) := by decide +kernel
theorem dX8_moveUp_5 : decode cX8_moveUp 5 = .ok (.istore_n 2, 1) := by decide +kernel
theorem dX8_moveUp_6 : decode cX8_moveUp 6 = .ok (.iload_n 1, 1) := by decide +kernel
theorem dX8_moveUp_7 : decode cX8_moveUp 7 = .ok (.istore_n 3, 1) := by decide +kernel
theorem dX8_moveUp_8 : decode cX8_moveUp 8 = .ok (.iconst 0, 1) := by decide +kernel
theorem dX8_moveUp_9 : decode cX8_moveUp 9 = .ok (.istore 4, 2) := by decide +kernel
theorem dX8_moveUp_11 : decode cX8_moveUp 11 = .ok (.iload 4, 2) := by decide +kernel
theorem dX8_moveUp_13 : decode cX8_moveUp 13 = .ok (.bipush 60, 2) := by decide +kernel
theorem dX8_moveUp_15 : decode cX8_moveUp 15 = .ok (.if_icmp .ge 72, 3) := by decide +kernel
theorem dX8_moveUp_18 : decode cX8_moveUp 18 = .ok (.aload_n 0, 1) := by decide +kernel
theorem dX8_moveUp_19 : decode cX8_moveUp 19 = .ok (.getfield 12, 3) := by decide +kernel
theorem dX8_moveUp_22 : decode cX8_moveUp 22 = .ok (.iload_n 3, 1) := by decide +kernel
theorem dX8_moveUp_23 : decode cX8_moveUp 23 = .ok (.invokevirtual 294, 3) := by decide +kernel
theorem dX8_moveUp_26 : decode cX8_moveUp 26 = .ok (.ifCond .eq 61, 3) := by decide +kernel
theorem dX8_moveUp_29 : decode cX8_moveUp 29 = .ok (.aload_n 0, 1) := by decide +kernel
theorem dX8_moveUp_30 : decode cX8_moveUp 30 = .ok (.iload_n 3, 1) := by decide +kernel
theorem dX8_moveUp_31 : decode cX8_moveUp 31 = .ok (.invokevirtual 297, 3) := by decide +kernel
theorem dX8_moveUp_34 : decode cX8_moveUp 34 = .ok (.astore 5, 2) := by decide +kernel
theorem dX8_moveUp_36 : decode cX8_moveUp 36 = .ok (.aload 5, 2) := by decide +kernel
theorem dX8_moveUp_38 : decode cX8_moveUp 38 = .ok (.ifnonnull 6, 3) := by decide +kernel
theorem dX8_moveUp_41 : decode cX8_moveUp 41 = .ok (.goto 46, 3) := by decide +kernel
theorem dX8_moveUp_44 : decode cX8_moveUp 44 = .ok (.aload 5, 2) := by decide +kernel
theorem dX8_moveUp_46 : decode cX8_moveUp 46 = .ok (.getfield 143, 3) := by decide +kernel
theorem dX8_moveUp_49 : decode cX8_moveUp 49 = .ok (.istore 6, 2) := by decide +kernel
theorem dX8_moveUp_51 : decode cX8_moveUp 51 = .ok (.aload_n 0, 1) := by decide +kernel
theorem dX8_moveUp_52 : decode cX8_moveUp 52 = .ok (.aload 5, 2) := by decide +kernel
theorem dX8_moveUp_54 : decode cX8_moveUp 54 = .ok (.invokevirtual 146, 3) := by decide +kernel
theorem dX8_moveUp_57 : decode cX8_moveUp 57 = .ok (.aload_n 0, 1) := by decide +kernel
theorem dX8_moveUp_58 : decode cX8_moveUp 58 = .ok (.aload 5, 2) := by decide +kernel
theorem dX8_moveUp_60 : decode cX8_moveUp 60 = .ok (.iload_n 3, 1) := by decide +kernel
theorem dX8_moveUp_61 : decode cX8_moveUp 61 = .ok (.invokevirtual 287, 3) := by decide +kernel
theorem dX8_moveUp_64 : decode cX8_moveUp 64 = .ok (.aload 5, 2) := by decide +kernel
theorem dX8_moveUp_66 : decode cX8_moveUp 66 = .ok (.dup, 1) := by decide +kernel
theorem dX8_moveUp_67 : decode cX8_moveUp 67 = .ok (.getfield 196, 3) := by decide +kernel
theorem dX8_moveUp_70 : decode cX8_moveUp 70 = .ok (.iconst 1, 1) := by decide +kernel
theorem dX8_moveUp_71 : decode cX8_moveUp 71 = .ok (.iadd, 1) := by decide +kernel
theorem dX8_moveUp_72 : decode cX8_moveUp 72 = .ok (.putfield 196, 3) := by decide +kernel
theorem dX8_moveUp_75 : decode cX8_moveUp 75 = .ok (.iinc 2 1, 3) := by decide +kernel
theorem dX8_moveUp_78 : decode cX8_moveUp 78 = .ok (.iload 6, 2) := by decide +kernel
theorem dX8_moveUp_80 : decode cX8_moveUp 80 = .ok (.istore_n 3, 1) := by decide +kernel
theorem dX8_moveUp_81 : decode cX8_moveUp 81 = .ok (.iinc 4 1, 3) := by decide +kernel
theorem dX8_moveUp_84 : decode cX8_moveUp 84 = .ok (.goto (-73), 3) := by decide +kernel
theorem dX8_moveUp_87 : decode cX8_moveUp 87 = .ok (.iload_n 2, 1) := by decide +kernel
theorem dX8_moveUp_88 : decode cX8_moveUp 88 = .ok (.ireturn, 1) := by decide +kernel
set_option maxRecDepth 20000 in
theorem ggX8_lineUpSooner_X2_clear : GoodIn wsX8_lineUpSooner wsX2_clear := goodIn_r _ [10, 11, 71, 72, 73] (by decide +kernel) (by decide +kernel)
set_option maxRecDepth 20000 in
theorem gX8_lineUpSooner_X2_clear : GoodIn wsX8_lineUpSooner (wsV RX8 160 RX2 yX2_clear wsX2_clear) := goodIn_app (goodIn_of _ (by decide +kernel)) ggX8_lineUpSooner_X2_clear
set_option maxRecDepth 20000 in
theorem ggX8_lineUpSooner_X8_rankOf : GoodIn wsX8_lineUpSooner wsX8_rankOf := goodIn_r _ [16, 17, 18, 19, 20, 21, 22, 23, 24, 25, 26, 27, 28, 29, 30, 31, 32, 33, 34, 35, 36, 37, 38, 39, 40, 41, 42, 49, 50, 51, 52, 53, 54, 55, 56, 57, 58, 59, 60, 61, 62, 63, 64, 65, 66, 67, 68, 69, 70, 74, 75, 76, 77, 78, 79, 80, 81, 82, 83, 84, 85, 86, 87, 88] (by decide +kernel) (by decide +kernel)
set_option maxRecDepth 20000 in
theorem gX8_lineUpSooner_X8_rankOf : GoodIn wsX8_lineUpSooner (wsV RX8 166 RX8 yX8_rankOf wsX8_rankOf) := goodIn_app (goodIn_of _ (by decide +kernel)) ggX8_lineUpSooner_X8_rankOf
set_option maxRecDepth 20000 in
theorem ggX8_lineUpSooner_X2_add : GoodIn wsX8_lineUpSooner wsX2_add := goodIn_r _ [46, 11, 47, 48, 71, 72, 73] (by decide +kernel) (by decide +kernel)
set_option maxRecDepth 20000 in
theorem gX8_lineUpSooner_X2_add : GoodIn wsX8_lineUpSooner (wsV RX8 170 RX2 yX2_add wsX2_add) := goodIn_app (goodIn_of _ (by decide +kernel)) ggX8_lineUpSooner_X2_add
theorem dX8_lineUpSooner_0 : decode cX8_lineUpSooner 0 = .ok (.aload_n 0, 1) := by decide +kernel
theorem dX8_lineUpSooner_1 : decode cX8_lineUpSooner 1 = .ok (.getfield 25, 3) := by decide +kernel
theorem dX8_lineUpSooner_4 : decode cX8_lineUpSooner 4 = .ok (.invokevirtual 160, 3) := by decide +kernel
theorem dX8_lineUpSooner_7 : decode cX8_lineUpSooner 7 = .ok (.iconst 0, 1) := by decide +kernel
theorem dX8_lineUpSooner_8 : decode cX8_lineUpSooner 8 = .ok (.istore_n 1, 1) := by decide +kernel
theorem dX8_lineUpSooner_9 : decode cX8_lineUpSooner 9 = .ok (.iload_n 1, 1) := by decide +kernel
theorem dX8_lineUpSooner_10 : decode cX8_lineUpSooner 10 = .ok (.aload_n 0, 1) := by decide +kernel
theorem dX8_lineUpSooner_11 : decode cX8_lineUpSooner 11 = .ok (.getfield 64, 3) := by decide +kernel
theorem dX8_lineUpSooner_14 : decode cX8_lineUpSooner 14 = .ok (.if_icmp .ge 52, 3) := by decide +kernel
theorem dX8_lineUpSooner_17 : decode cX8_lineUpSooner 17 = .ok (.aload_n 0, 1) := by decide +kernel
theorem dX8_lineUpSooner_18 : decode cX8_lineUpSooner 18 = .ok (.getfield 18, 3) := by decide +kernel
theorem dX8_lineUpSooner_21 : decode cX8_lineUpSooner 21 = .ok (.iload_n 1, 1) := by decide +kernel
theorem dX8_lineUpSooner_22 : decode cX8_lineUpSooner 22 = .ok (.aaload, 1) := by decide +kernel
theorem dX8_lineUpSooner_23 : decode cX8_lineUpSooner 23 = .ok (.getfield 140, 3) := by decide +kernel
theorem dX8_lineUpSooner_26 : decode cX8_lineUpSooner 26 = .ok (.iconst 1, 1) := by decide +kernel
theorem dX8_lineUpSooner_27 : decode cX8_lineUpSooner 27 = .ok (.if_icmp .ne 33, 3) := by decide +kernel
theorem dX8_lineUpSooner_30 : decode cX8_lineUpSooner 30 = .ok (.aload_n 0, 1) := by decide +kernel
theorem dX8_lineUpSooner_31 : decode cX8_lineUpSooner 31 = .ok (.getfield 18, 3) := by decide +kernel
theorem dX8_lineUpSooner_34 : decode cX8_lineUpSooner 34 = .ok (.iload_n 1, 1) := by decide +kernel
theorem dX8_lineUpSooner_35 : decode cX8_lineUpSooner 35 = .ok (.aaload, 1) := by decide +kernel
theorem dX8_lineUpSooner_36 : decode cX8_lineUpSooner 36 = .ok (.getfield 112, 3) := by decide +kernel
theorem dX8_lineUpSooner_39 : decode cX8_lineUpSooner 39 = .ok (.ifCond .eq 21, 3) := by decide +kernel
theorem dX8_lineUpSooner_42 : decode cX8_lineUpSooner 42 = .ok (.aload_n 0, 1) := by decide +kernel
theorem dX8_lineUpSooner_43 : decode cX8_lineUpSooner 43 = .ok (.getfield 25, 3) := by decide +kernel
theorem dX8_lineUpSooner_46 : decode cX8_lineUpSooner 46 = .ok (.iload_n 1, 1) := by decide +kernel
theorem dX8_lineUpSooner_47 : decode cX8_lineUpSooner 47 = .ok (.aload_n 0, 1) := by decide +kernel
theorem dX8_lineUpSooner_48 : decode cX8_lineUpSooner 48 = .ok (.aload_n 0, 1) := by decide +kernel
theorem dX8_lineUpSooner_49 : decode cX8_lineUpSooner 49 = .ok (.getfield 18, 3) := by decide +kernel
theorem dX8_lineUpSooner_52 : decode cX8_lineUpSooner 52 = .ok (.iload_n 1, 1) := by decide +kernel
theorem dX8_lineUpSooner_53 : decode cX8_lineUpSooner 53 = .ok (.aaload, 1) := by decide +kernel
theorem dX8_lineUpSooner_54 : decode cX8_lineUpSooner 54 = .ok (.invokevirtual 166, 3) := by decide +kernel
theorem dX8_lineUpSooner_57 : decode cX8_lineUpSooner 57 = .ok (.invokevirtual 170, 3) := by decide +kernel
theorem dX8_lineUpSooner_60 : decode cX8_lineUpSooner 60 = .ok (.iinc 1 1, 3) := by decide +kernel
theorem dX8_lineUpSooner_63 : decode cX8_lineUpSooner 63 = .ok (.goto (-54), 3) := by decide +kernel
theorem dX8_lineUpSooner_66 : decode cX8_lineUpSooner 66 = .ok (.return_, 1) := by decide +kernel
set_option maxRecDepth 20000 in
theorem ggX8_firstToMove_X8_isSuiting : GoodIn wsX8_firstToMove wsX8_isSuiting := goodIn_r _ [10, 11, 12, 13, 14, 15, 16, 17, 9, 18, 19, 20, 21, 22, 23, 24, 25, 26, 27, 28, 42, 43, 44, 45, 46, 47, 48, 49, 50, 51, 52, 53, 29, 30, 31, 32, 33, 34, 35, 36, 37, 38, 54, 55, 56, 57, 58, 59, 60, 61, 62] (by decide +kernel) (by decide +kernel)
set_option maxRecDepth 20000 in
theorem gX8_firstToMove_X8_isSuiting : GoodIn wsX8_firstToMove (wsV RX8 300 RX8 yX8_isSuiting wsX8_isSuiting) := goodIn_app (goodIn_of _ (by decide +kernel)) ggX8_firstToMove_X8_isSuiting
theorem dX8_firstToMove_0 : decode cX8_firstToMove 0 = .ok (.iconst 0, 1) := by decide +kernel
theorem dX8_firstToMove_1 : decode cX8_firstToMove 1 = .ok (.istore_n 2, 1) := by decide +kernel
theorem dX8_firstToMove_2 : decode cX8_firstToMove 2 = .ok (.iload_n 2, 1) := by decide +kernel
theorem dX8_firstToMove_3 : decode cX8_firstToMove 3 = .ok (.aload_n 0, 1) := by decide +kernel
theorem dX8_firstToMove_4 : decode cX8_firstToMove 4 = .ok (.getfield 25, 3) := by decide +kernel
theorem dX8_firstToMove_7 : decode cX8_firstToMove 7 = .ok (.getfield 173, 3) := by decide +kernel
theorem dX8_firstToMove_10 : decode cX8_firstToMove 10 = .ok (.if_icmp .ge 43, 3) := by decide +kernel
theorem dX8_firstToMove_13 : decode cX8_firstToMove 13 = .ok (.aload_n 0, 1) := by decide +kernel
theorem dX8_firstToMove_14 : decode cX8_firstToMove 14 = .ok (.getfield 18, 3) := by decide +kernel
theorem dX8_firstToMove_17 : decode cX8_firstToMove 17 = .ok (.aload_n 0, 1) := by decide +kernel
theorem dX8_firstToMove_18 : decode cX8_firstToMove 18 = .ok (.getfield 25, 3) := by decide +kernel
theorem dX8_firstToMove_21 : decode cX8_firstToMove 21 = .ok (.getfield 276, 3) := by decide +kernel
theorem dX8_firstToMove_24 : decode cX8_firstToMove 24 = .ok (.iload_n 2, 1) := by decide +kernel
theorem dX8_firstToMove_25 : decode cX8_firstToMove 25 = .ok (.iaload, 1) := by decide +kernel
theorem dX8_firstToMove_26 : decode cX8_firstToMove 26 = .ok (.aaload, 1) := by decide +kernel
theorem dX8_firstToMove_27 : decode cX8_firstToMove 27 = .ok (.astore_n 3, 1) := by decide +kernel
theorem dX8_firstToMove_28 : decode cX8_firstToMove 28 = .ok (.aload_n 3, 1) := by decide +kernel
theorem dX8_firstToMove_29 : decode cX8_firstToMove 29 = .ok (.getfield 143, 3) := by decide +kernel
theorem dX8_firstToMove_32 : decode cX8_firstToMove 32 = .ok (.iload_n 1, 1) := by decide +kernel
theorem dX8_firstToMove_33 : decode cX8_firstToMove 33 = .ok (.if_icmp .le 14, 3) := by decide +kernel
theorem dX8_firstToMove_36 : decode cX8_firstToMove 36 = .ok (.aload_n 0, 1) := by decide +kernel
theorem dX8_firstToMove_37 : decode cX8_firstToMove 37 = .ok (.iload_n 1, 1) := by decide +kernel
theorem dX8_firstToMove_38 : decode cX8_firstToMove 38 = .ok (.aload_n 3, 1) := by decide +kernel
theorem dX8_firstToMove_39 : decode cX8_firstToMove 39 = .ok (.invokevirtual 300, 3) := by decide +kernel
theorem dX8_firstToMove_42 : decode cX8_firstToMove 42 = .ok (.ifCond .eq 5, 3) := by decide +kernel
theorem dX8_firstToMove_45 : decode cX8_firstToMove 45 = .ok (.aload_n 3, 1) := by decide +kernel
theorem dX8_firstToMove_46 : decode cX8_firstToMove 46 = .ok (.areturn, 1) := by decide +kernel
theorem dX8_firstToMove_47 : decode cX8_firstToMove 47 = .ok (.iinc 2 1, 3) := by decide +kernel
theorem dX8_firstToMove_50 : decode cX8_firstToMove 50 = .ok (.goto (-48), 3) := by decide +kernel
theorem dX8_firstToMove_53 : decode cX8_firstToMove 53 = .ok (.aconst_null, 1) := by decide +kernel
theorem dX8_firstToMove_54 : decode cX8_firstToMove 54 = .ok (.areturn, 1) := by decide +kernel
set_option maxRecDepth 20000 in
theorem ggX8_isSuiting_X8_dayOf : GoodIn wsX8_isSuiting wsX8_dayOf := goodIn_r _ [9] (by decide +kernel) (by decide +kernel)
set_option maxRecDepth 20000 in
theorem gX8_isSuiting_X8_dayOf : GoodIn wsX8_isSuiting (va_wsS RX8 163 yX8_dayOf wsX8_dayOf) := goodIn_app (goodIn_of _ (by decide +kernel)) ggX8_isSuiting_X8_dayOf
set_option maxRecDepth 20000 in
theorem ggX8_isSuiting_X8_examinerOf : GoodIn wsX8_isSuiting wsX8_examinerOf := goodIn_r _ [12] (by decide +kernel) (by decide +kernel)
set_option maxRecDepth 20000 in
theorem gX8_isSuiting_X8_examinerOf : GoodIn wsX8_isSuiting (va_wsS RX8 176 yX8_examinerOf wsX8_examinerOf) := goodIn_app (goodIn_of _ (by decide +kernel)) ggX8_isSuiting_X8_examinerOf
set_option maxRecDepth 20000 in
theorem ggX8_isSuiting_X0_townOf : GoodIn wsX8_isSuiting wsX0_townOf := goodIn_r _ [17, 18, 19, 42, 43, 44, 45, 46, 47, 48, 49, 50] (by decide +kernel) (by decide +kernel)
set_option maxRecDepth 20000 in
theorem gX8_isSuiting_X0_townOf : GoodIn wsX8_isSuiting (wsV RX8 263 RX0 yX0_townOf wsX0_townOf) := goodIn_app (goodIn_of _ (by decide +kernel)) ggX8_isSuiting_X0_townOf
theorem dX8_isSuiting_0 : decode cX8_isSuiting 0 = .ok (.iload_n 1, 1) := by decide +kernel
theorem dX8_isSuiting_1 : decode cX8_isSuiting 1 = .ok (.invokestatic 163, 3) := by decide +kernel
theorem dX8_isSuiting_4 : decode cX8_isSuiting 4 = .ok (.istore_n 3, 1) := by decide +kernel
theorem dX8_isSuiting_5 : decode cX8_isSuiting 5 = .ok (.iload_n 3, 1) := by decide +kernel
theorem dX8_isSuiting_6 : decode cX8_isSuiting 6 = .ok (.aload_n 2, 1) := by decide +kernel
theorem dX8_isSuiting_7 : decode cX8_isSuiting 7 = .ok (.getfield 109, 3) := by decide +kernel
theorem dX8_isSuiting_10 : decode cX8_isSuiting 10 = .ok (.if_icmp .lt 23, 3) := by decide +kernel
theorem dX8_isSuiting_13 : decode cX8_isSuiting 13 = .ok (.iload_n 3, 1) := by decide +kernel
theorem dX8_isSuiting_14 : decode cX8_isSuiting 14 = .ok (.aload_n 2, 1) := by decide +kernel
theorem dX8_isSuiting_15 : decode cX8_isSuiting 15 = .ok (.getfield 103, 3) := by decide +kernel
theorem dX8_isSuiting_18 : decode cX8_isSuiting 18 = .ok (.if_icmp .lt 15, 3) := by decide +kernel
theorem dX8_isSuiting_21 : decode cX8_isSuiting 21 = .ok (.iload_n 3, 1) := by decide +kernel
theorem dX8_isSuiting_22 : decode cX8_isSuiting 22 = .ok (.aload_n 2, 1) := by decide +kernel
theorem dX8_isSuiting_23 : decode cX8_isSuiting 23 = .ok (.getfield 106, 3) := by decide +kernel
theorem dX8_isSuiting_26 : decode cX8_isSuiting 26 = .ok (.if_icmp .gt 7, 3) := by decide +kernel
theorem dX8_isSuiting_29 : decode cX8_isSuiting 29 = .ok (.iconst 1, 1) := by decide +kernel
theorem dX8_isSuiting_30 : decode cX8_isSuiting 30 = .ok (.goto 4, 3) := by decide +kernel
theorem dX8_isSuiting_33 : decode cX8_isSuiting 33 = .ok (.iconst 0, 1) := by decide +kernel
theorem dX8_isSuiting_34 : decode cX8_isSuiting 34 = .ok (.istore 4, 2) := by decide +kernel
theorem dX8_isSuiting_36 : decode cX8_isSuiting 36 = .ok (.iload 4, 2) := by decide +kernel
theorem dX8_isSuiting_38 : decode cX8_isSuiting 38 = .ok (.ifCond .eq 26, 3) := by decide +kernel
theorem dX8_isSuiting_41 : decode cX8_isSuiting 41 = .ok (.aload_n 0, 1) := by decide +kernel
theorem dX8_isSuiting_42 : decode cX8_isSuiting 42 = .ok (.getfield 12, 3) := by decide +kernel
theorem dX8_isSuiting_45 : decode cX8_isSuiting 45 = .ok (.iload_n 1, 1) := by decide +kernel
theorem dX8_isSuiting_46 : decode cX8_isSuiting 46 = .ok (.invokestatic 176, 3) := by decide +kernel
theorem dX8_isSuiting_49 : decode cX8_isSuiting 49 = .ok (.iload_n 3, 1) := by decide +kernel
theorem dX8_isSuiting_50 : decode cX8_isSuiting 50 = .ok (.invokevirtual 263, 3) := by decide +kernel
theorem dX8_isSuiting_53 : decode cX8_isSuiting 53 = .ok (.aload_n 2, 1) := by decide +kernel
theorem dX8_isSuiting_54 : decode cX8_isSuiting 54 = .ok (.getfield 97, 3) := by decide +kernel
theorem dX8_isSuiting_57 : decode cX8_isSuiting 57 = .ok (.if_icmp .ne 7, 3) := by decide +kernel
theorem dX8_isSuiting_60 : decode cX8_isSuiting 60 = .ok (.iconst 1, 1) := by decide +kernel
theorem dX8_isSuiting_61 : decode cX8_isSuiting 61 = .ok (.goto 4, 3) := by decide +kernel
theorem dX8_isSuiting_64 : decode cX8_isSuiting 64 = .ok (.iconst 0, 1) := by decide +kernel
theorem dX8_isSuiting_65 : decode cX8_isSuiting 65 = .ok (.ireturn, 1) := by decide +kernel
theorem dX8_countOfState_0 : decode cX8_countOfState 0 = .ok (.iconst 0, 1) := by decide +kernel
theorem dX8_countOfState_1 : decode cX8_countOfState 1 = .ok (.istore_n 2, 1) := by decide +kernel
theorem dX8_countOfState_2 : decode cX8_countOfState 2 = .ok (.iconst 0, 1) := by decide +kernel
theorem dX8_countOfState_3 : decode cX8_countOfState 3 = .ok (.istore_n 3, 1) := by decide +kernel
theorem dX8_countOfState_4 : decode cX8_countOfState 4 = .ok (.iload_n 3, 1) := by decide +kernel
theorem dX8_countOfState_5 : decode cX8_countOfState 5 = .ok (.aload_n 0, 1) := by decide +kernel
theorem dX8_countOfState_6 : decode cX8_countOfState 6 = .ok (.getfield 64, 3) := by decide +kernel
theorem dX8_countOfState_9 : decode cX8_countOfState 9 = .ok (.if_icmp .ge 25, 3) := by decide +kernel
theorem dX8_countOfState_12 : decode cX8_countOfState 12 = .ok (.aload_n 0, 1) := by decide +kernel
theorem dX8_countOfState_13 : decode cX8_countOfState 13 = .ok (.getfield 18, 3) := by decide +kernel
theorem dX8_countOfState_16 : decode cX8_countOfState 16 = .ok (.iload_n 3, 1) := by decide +kernel
theorem dX8_countOfState_17 : decode cX8_countOfState 17 = .ok (.aaload, 1) := by decide +kernel
theorem dX8_countOfState_18 : decode cX8_countOfState 18 = .ok (.getfield 140, 3) := by decide +kernel
theorem dX8_countOfState_21 : decode cX8_countOfState 21 = .ok (.iload_n 1, 1) := by decide +kernel
theorem dX8_countOfState_22 : decode cX8_countOfState 22 = .ok (.if_icmp .ne 6, 3) := by decide +kernel
theorem dX8_countOfState_25 : decode cX8_countOfState 25 = .ok (.iinc 2 1, 3) := by decide +kernel
theorem dX8_countOfState_28 : decode cX8_countOfState 28 = .ok (.iinc 3 1, 3) := by decide +kernel
theorem dX8_countOfState_31 : decode cX8_countOfState 31 = .ok (.goto (-27), 3) := by decide +kernel
theorem dX8_countOfState_34 : decode cX8_countOfState 34 = .ok (.iload_n 2, 1) := by decide +kernel
theorem dX8_countOfState_35 : decode cX8_countOfState 35 = .ok (.ireturn, 1) := by decide +kernel
set_option maxRecDepth 20000 in
theorem ggX8_countBookedWith_X8_examinerOf : GoodIn wsX8_countBookedWith wsX8_examinerOf := goodIn_r _ [8] (by decide +kernel) (by decide +kernel)
set_option maxRecDepth 20000 in
theorem gX8_countBookedWith_X8_examinerOf : GoodIn wsX8_countBookedWith (va_wsS RX8 176 yX8_examinerOf wsX8_examinerOf) := goodIn_app (goodIn_of _ (by decide +kernel)) ggX8_countBookedWith_X8_examinerOf
theorem dX8_countBookedWith_0 : decode cX8_countBookedWith 0 = .ok (.iconst 0, 1) := by decide +kernel
theorem dX8_countBookedWith_1 : decode cX8_countBookedWith 1 = .ok (.istore_n 2, 1) := by decide +kernel
theorem dX8_countBookedWith_2 : decode cX8_countBookedWith 2 = .ok (.iconst 0, 1) := by decide +kernel
theorem dX8_countBookedWith_3 : decode cX8_countBookedWith 3 = .ok (.istore_n 3, 1) := by decide +kernel
theorem dX8_countBookedWith_4 : decode cX8_countBookedWith 4 = .ok (.iload_n 3, 1) := by decide +kernel
theorem dX8_countBookedWith_5 : decode cX8_countBookedWith 5 = .ok (.aload_n 0, 1) := by decide +kernel
theorem dX8_countBookedWith_6 : decode cX8_countBookedWith 6 = .ok (.getfield 64, 3) := by decide +kernel
theorem dX8_countBookedWith_9 : decode cX8_countBookedWith 9 = .ok (.if_icmp .ge 41, 3) := by decide +kernel
theorem dX8_countBookedWith_12 : decode cX8_countBookedWith 12 = .ok (.aload_n 0, 1) := by decide +kernel
theorem dX8_countBookedWith_13 : decode cX8_countBookedWith 13 = .ok (.getfield 18, 3) := by decide +kernel
theorem dX8_countBookedWith_16 : decode cX8_countBookedWith 16 = .ok (.iload_n 3, 1) := by decide +kernel
theorem dX8_countBookedWith_17 : decode cX8_countBookedWith 17 = .ok (.aaload, 1) := by decide +kernel
theorem dX8_countBookedWith_18 : decode cX8_countBookedWith 18 = .ok (.getfield 140, 3) := by decide +kernel
theorem dX8_countBookedWith_21 : decode cX8_countBookedWith 21 = .ok (.iconst 1, 1) := by decide +kernel
theorem dX8_countBookedWith_22 : decode cX8_countBookedWith 22 = .ok (.if_icmp .ne 22, 3) := by decide +kernel
theorem dX8_countBookedWith_25 : decode cX8_countBookedWith 25 = .ok (.aload_n 0, 1) := by decide +kernel
theorem dX8_countBookedWith_26 : decode cX8_countBookedWith 26 = .ok (.getfield 18, 3) := by decide +kernel
theorem dX8_countBookedWith_29 : decode cX8_countBookedWith 29 = .ok (.iload_n 3, 1) := by decide +kernel
theorem dX8_countBookedWith_30 : decode cX8_countBookedWith 30 = .ok (.aaload, 1) := by decide +kernel
theorem dX8_countBookedWith_31 : decode cX8_countBookedWith 31 = .ok (.getfield 143, 3) := by decide +kernel
theorem dX8_countBookedWith_34 : decode cX8_countBookedWith 34 = .ok (.invokestatic 176, 3) := by decide +kernel
theorem dX8_countBookedWith_37 : decode cX8_countBookedWith 37 = .ok (.iload_n 1, 1) := by decide +kernel
theorem dX8_countBookedWith_38 : decode cX8_countBookedWith 38 = .ok (.if_icmp .ne 6, 3) := by decide +kernel
theorem dX8_countBookedWith_41 : decode cX8_countBookedWith 41 = .ok (.iinc 2 1, 3) := by decide +kernel
theorem dX8_countBookedWith_44 : decode cX8_countBookedWith 44 = .ok (.iinc 3 1, 3) := by decide +kernel
theorem dX8_countBookedWith_47 : decode cX8_countBookedWith 47 = .ok (.goto (-43), 3) := by decide +kernel
theorem dX8_countBookedWith_50 : decode cX8_countBookedWith 50 = .ok (.iload_n 2, 1) := by decide +kernel
theorem dX8_countBookedWith_51 : decode cX8_countBookedWith 51 = .ok (.ireturn, 1) := by decide +kernel
theorem dX9_thrown_0 : decode cX9_thrown 0 = .ok (.aload_n 0, 1) := by decide +kernel
theorem dX9_thrown_1 : decode cX9_thrown 1 = .ok (.getfield 1, 3) := by decide +kernel
theorem dX9_thrown_4 : decode cX9_thrown 4 = .ok (.ireturn, 1) := by decide +kernel
set_option maxRecDepth 20000 in
theorem ggX9_feed_X9_lay : GoodIn wsX9_feed wsX9_lay := goodIn_r _ [7, 2, 8, 9, 10, 11, 12, 13, 14, 15, 16, 17, 18, 19, 20, 21, 22, 23, 24, 25, 26, 27, 28, 29, 30, 31, 32, 33, 34, 35, 36, 37, 38, 39, 40, 41, 42, 43, 44, 45, 46, 47, 48, 49, 50, 51, 52, 53, 54, 55, 56, 57, 58, 59, 60, 61, 62, 63, 64, 65, 66, 67, 68, 69, 70] (by decide +kernel) (by decide +kernel)
set_option maxRecDepth 20000 in
theorem gX9_feed_X9_lay : GoodIn wsX9_feed (wsV RX9 7 RX9 yX9_lay wsX9_lay) := goodIn_app (goodIn_of _ (by decide +kernel)) ggX9_feed_X9_lay
end
section
theorem dX9_feed_0 : decode cX9_feed 0 = .ok (.aload_n 0, 1) := by decide +kernel
theorem dX9_feed_1 : decode cX9_feed 1 = .ok (.iconst 0, 1) := by decide +kernel
theorem dX9_feed_2 : decode cX9_feed 2 = .ok (.putfield 1, 3) := by decide +kernel
theorem dX9_feed_5 : decode cX9_feed 5 = .ok (.aload_n 0, 1) := by decide +kernel
theorem dX9_feed_6 : decode cX9_feed 6 = .ok (.lload_n 1, 1) := by decide +kernel
theorem dX9_feed_7 : decode cX9_feed 7 = .ok (.invokevirtual 7, 3) := by decide +kernel
theorem dX9_feed_10 : decode cX9_feed 10 = .ok (.aload_n 0, 1) := by decide +kernel
theorem dX9_feed_11 : decode cX9_feed 11 = .ok (.lload_n 3, 1) := by decide +kernel
theorem dX9_feed_12 : decode cX9_feed 12 = .ok (.invokevirtual 7, 3) := by decide +kernel
theorem dX9_feed_15 : decode cX9_feed 15 = .ok (.aload_n 0, 1) := by decide +kernel
theorem dX9_feed_16 : decode cX9_feed 16 = .ok (.lload 5, 2) := by decide +kernel
theorem dX9_feed_18 : decode cX9_feed 18 = .ok (.invokevirtual 7, 3) := by decide +kernel
theorem dX9_feed_21 : decode cX9_feed 21 = .ok (.aload_n 0, 1) := by decide +kernel
theorem dX9_feed_22 : decode cX9_feed 22 = .ok (.getfield 11, 3) := by decide +kernel
theorem dX9_feed_25 : decode cX9_feed 25 = .ok (.ireturn, 1) := by decide +kernel
theorem dX9_lay_0 : decode cX9_lay 0 = .ok (.bipush 56, 2) := by decide +kernel
theorem dX9_lay_2 : decode cX9_lay 2 = .ok (.istore_n 3, 1) := by decide +kernel
theorem dX9_lay_3 : decode cX9_lay 3 = .ok (.iload_n 3, 1) := by decide +kernel
theorem dX9_lay_4 : decode cX9_lay 4 = .ok (.ifCond .lt 71, 3) := by decide +kernel
theorem dX9_lay_7 : decode cX9_lay 7 = .ok (.lload_n 1, 1) := by decide +kernel
theorem dX9_lay_8 : decode cX9_lay 8 = .ok (.iload_n 3, 1) := by decide +kernel
theorem dX9_lay_9 : decode cX9_lay 9 = .ok (.lshr, 1) := by decide +kernel
theorem dX9_lay_10 : decode cX9_lay 10 = .ok (.l2i, 1) := by decide +kernel
theorem dX9_lay_11 : decode cX9_lay 11 = .ok (.sipush 255, 3) := by decide +kernel
theorem dX9_lay_14 : decode cX9_lay 14 = .ok (.iand, 1) := by decide +kernel
theorem dX9_lay_15 : decode cX9_lay 15 = .ok (.istore 4, 2) := by decide +kernel
theorem dX9_lay_17 : decode cX9_lay 17 = .ok (.iload 4, 2) := by decide +kernel
theorem dX9_lay_19 : decode cX9_lay 19 = .ok (.bipush 10, 2) := by decide +kernel
theorem dX9_lay_21 : decode cX9_lay 21 = .ok (.if_icmp .eq 17, 3) := by decide +kernel
theorem dX9_lay_24 : decode cX9_lay 24 = .ok (.iload 4, 2) := by decide +kernel
theorem dX9_lay_26 : decode cX9_lay 26 = .ok (.bipush 32, 2) := by decide +kernel
theorem dX9_lay_28 : decode cX9_lay 28 = .ok (.if_icmp .lt 41, 3) := by decide +kernel
theorem dX9_lay_31 : decode cX9_lay 31 = .ok (.iload 4, 2) := by decide +kernel
theorem dX9_lay_33 : decode cX9_lay 33 = .ok (.bipush 126, 2) := by decide +kernel
theorem dX9_lay_35 : decode cX9_lay 35 = .ok (.if_icmp .gt 34, 3) := by decide +kernel
theorem dX9_lay_38 : decode cX9_lay 38 = .ok (.aload_n 0, 1) := by decide +kernel
theorem dX9_lay_39 : decode cX9_lay 39 = .ok (.getfield 11, 3) := by decide +kernel
theorem dX9_lay_42 : decode cX9_lay 42 = .ok (.sipush 600, 3) := by decide +kernel
theorem dX9_lay_45 : decode cX9_lay 45 = .ok (.if_icmp .ge 24, 3) := by decide +kernel
theorem dX9_lay_48 : decode cX9_lay 48 = .ok (.aload_n 0, 1) := by decide +kernel
theorem dX9_lay_49 : decode cX9_lay 49 = .ok (.getfield 14, 3) := by decide +kernel
theorem dX9_lay_52 : decode cX9_lay 52 = .ok (.aload_n 0, 1) := by decide +kernel
theorem dX9_lay_53 : decode cX9_lay 53 = .ok (.getfield 11, 3) := by decide +kernel
theorem dX9_lay_56 : decode cX9_lay 56 = .ok (.iload 4, 2) := by decide +kernel
theorem dX9_lay_58 : decode cX9_lay 58 = .ok (.iastore, 1) := by decide +kernel
theorem dX9_lay_59 : decode cX9_lay 59 = .ok (.aload_n 0, 1) := by decide +kernel
theorem dX9_lay_60 : decode cX9_lay 60 = .ok (.dup, 1) := by decide +kernel
theorem dX9_lay_61 : decode cX9_lay 61 = .ok (.getfield 11, 3) := by decide +kernel
theorem dX9_lay_64 : decode cX9_lay 64 = .ok (.iconst 1, 1) := by decide +kernel
theorem dX9_lay_65 : decode cX9_lay 65 = .ok (.iadd, 1) := by decide +kernel
theorem dX9_lay_66 : decode cX9_lay 66 = .ok (.putfield 11, 3) := by decide +kernel
theorem dX9_lay_69 : decode cX9_lay 69 = .ok (.iinc 3 (-8), 3) := by decide +kernel
theorem dX9_lay_72 : decode cX9_lay 72 = .ok (.goto (-69), 3) := by decide +kernel
theorem dX9_lay_75 : decode cX9_lay 75 = .ok (.return_, 1) := by decide +kernel
theorem dX9_init_0 : decode cX9_init 0 = .ok (.aload_n 0, 1) := by decide +kernel
theorem dX9_init_1 : decode cX9_init 1 = .ok (.invokespecial 18, 3) := by decide +kernel
theorem dX9_init_4 : decode cX9_init 4 = .ok (.aload_n 0, 1) := by decide +kernel
theorem dX9_init_5 : decode cX9_init 5 = .ok (.sipush 600, 3) := by decide +kernel
theorem dX9_init_8 : decode cX9_init 8 = .ok (.newarray .int, 2) := by decide +kernel
theorem dX9_init_10 : decode cX9_init 10 = .ok (.putfield 14, 3) := by decide +kernel
theorem dX9_init_13 : decode cX9_init 13 = .ok (.aload_n 0, 1) := by decide +kernel
theorem dX9_init_14 : decode cX9_init 14 = .ok (.sipush 602, 3) := by decide +kernel
theorem dX9_init_17 : decode cX9_init 17 = .ok (.newarray .int, 2) := by decide +kernel
theorem dX9_init_19 : decode cX9_init 19 = .ok (.putfield 24, 3) := by decide +kernel
theorem dX9_init_22 : decode cX9_init 22 = .ok (.aload_n 0, 1) := by decide +kernel
theorem dX9_init_23 : decode cX9_init 23 = .ok (.sipush 602, 3) := by decide +kernel
theorem dX9_init_26 : decode cX9_init 26 = .ok (.newarray .int, 2) := by decide +kernel
theorem dX9_init_28 : decode cX9_init 28 = .ok (.putfield 27, 3) := by decide +kernel
theorem dX9_init_31 : decode cX9_init 31 = .ok (.aload_n 0, 1) := by decide +kernel
theorem dX9_init_32 : decode cX9_init 32 = .ok (.sipush 602, 3) := by decide +kernel
theorem dX9_init_35 : decode cX9_init 35 = .ok (.newarray .long, 2) := by decide +kernel
theorem dX9_init_37 : decode cX9_init 37 = .ok (.putfield 30, 3) := by decide +kernel
theorem dX9_init_40 : decode cX9_init 40 = .ok (.aload_n 0, 1) := by decide +kernel
theorem dX9_init_41 : decode cX9_init 41 = .ok (.bipush 9, 2) := by decide +kernel
theorem dX9_init_43 : decode cX9_init 43 = .ok (.newarray .long, 2) := by decide +kernel
theorem dX9_init_45 : decode cX9_init 45 = .ok (.dup, 1) := by decide +kernel
theorem dX9_init_46 : decode cX9_init 46 = .ok (.iconst 0, 1) := by decide +kernel
theorem dX9_init_47 : decode cX9_init 47 = .ok (.ldc2_w 34, 3) := by decide +kernel
theorem dX9_init_50 : decode cX9_init 50 = .ok (.lastore, 1) := by decide +kernel
theorem dX9_init_51 : decode cX9_init 51 = .ok (.dup, 1) := by decide +kernel
theorem dX9_init_52 : decode cX9_init 52 = .ok (.iconst 1, 1) := by decide +kernel
theorem dX9_init_53 : decode cX9_init 53 = .ok (.ldc2_w 36, 3) := by decide +kernel
theorem dX9_init_56 : decode cX9_init 56 = .ok (.lastore, 1) := by decide +kernel
theorem dX9_init_57 : decode cX9_init 57 = .ok (.dup, 1) := by decide +kernel
theorem dX9_init_58 : decode cX9_init 58 = .ok (.iconst 2, 1) := by decide +kernel
theorem dX9_init_59 : decode cX9_init 59 = .ok (.ldc2_w 38, 3) := by decide +kernel
theorem dX9_init_62 : decode cX9_init 62 = .ok (.lastore, 1) := by decide +kernel
theorem dX9_init_63 : decode cX9_init 63 = .ok (.dup, 1) := by decide +kernel
theorem dX9_init_64 : decode cX9_init 64 = .ok (.iconst 3, 1) := by decide +kernel
theorem dX9_init_65 : decode cX9_init 65 = .ok (.ldc2_w 40, 3) := by decide +kernel
theorem dX9_init_68 : decode cX9_init 68 = .ok (.lastore, 1) := by decide +kernel
theorem dX9_init_69 : decode cX9_init 69 = .ok (.dup, 1) := by decide +kernel
theorem dX9_init_70 : decode cX9_init 70 = .ok (.iconst 4, 1) := by decide +kernel
theorem dX9_init_71 : decode cX9_init 71 = .ok (.ldc2_w 42, 3) := by decide +kernel
theorem dX9_init_74 : decode cX9_init 74 = .ok (.lastore, 1) := by decide +kernel
theorem dX9_init_75 : decode cX9_init 75 = .ok (.dup, 1) := by decide +kernel
theorem dX9_init_76 : decode cX9_init 76 = .ok (.iconst 5, 1) := by decide +kernel
theorem dX9_init_77 : decode cX9_init 77 = .ok (.ldc2_w 44, 3) := by decide +kernel
theorem dX9_init_80 : decode cX9_init 80 = .ok (.lastore, 1) := by decide +kernel
theorem dX9_init_81 : decode cX9_init 81 = .ok (.dup, 1) := by decide +kernel
theorem dX9_init_82 : decode cX9_init 82 = .ok (.bipush 6, 2) := by decide +kernel
theorem dX9_init_84 : decode cX9_init 84 = .ok (.ldc2_w 46, 3) := by decide +kernel
theorem dX9_init_87 : decode cX9_init 87 = .ok (.lastore, 1) := by decide +kernel
theorem dX9_init_88 : decode cX9_init 88 = .ok (.dup, 1) := by decide +kernel
theorem dX9_init_89 : decode cX9_init 89 = .ok (.bipush 7, 2) := by decide +kernel
theorem dX9_init_91 : decode cX9_init 91 = .ok (.ldc2_w 48, 3) := by decide +kernel
theorem dX9_init_94 : decode cX9_init 94 = .ok (.lastore, 1) := by decide +kernel
theorem dX9_init_95 : decode cX9_init 95 = .ok (.dup, 1) := by decide +kernel
theorem dX9_init_96 : decode cX9_init 96 = .ok (.bipush 8, 2) := by decide +kernel
theorem dX9_init_98 : decode cX9_init 98 = .ok (.ldc2_w 50, 3) := by decide +kernel
theorem dX9_init_101 : decode cX9_init 101 = .ok (.lastore, 1) := by decide +kernel
theorem dX9_init_102 : decode cX9_init 102 = .ok (.putfield 52, 3) := by decide +kernel
theorem dX9_init_105 : decode cX9_init 105 = .ok (.aload_n 0, 1) := by decide +kernel
theorem dX9_init_106 : decode cX9_init 106 = .ok (.iconst 2, 1) := by decide +kernel
theorem dX9_init_107 : decode cX9_init 107 = .ok (.newarray .int, 2) := by decide +kernel
theorem dX9_init_109 : decode cX9_init 109 = .ok (.putfield 55, 3) := by decide +kernel
theorem dX9_init_112 : decode cX9_init 112 = .ok (.aload_n 0, 1) := by decide +kernel
theorem dX9_init_113 : decode cX9_init 113 = .ok (.bipush 32, 2) := by decide +kernel
theorem dX9_init_115 : decode cX9_init 115 = .ok (.newarray .int, 2) := by decide +kernel
theorem dX9_init_117 : decode cX9_init 117 = .ok (.putfield 58, 3) := by decide +kernel
theorem dX9_init_120 : decode cX9_init 120 = .ok (.aload_n 0, 1) := by decide +kernel
theorem dX9_init_121 : decode cX9_init 121 = .ok (.bipush 32, 2) := by decide +kernel
theorem dX9_init_123 : decode cX9_init 123 = .ok (.newarray .int, 2) := by decide +kernel
theorem dX9_init_125 : decode cX9_init 125 = .ok (.putfield 61, 3) := by decide +kernel
theorem dX9_init_128 : decode cX9_init 128 = .ok (.aload_n 0, 1) := by decide +kernel
theorem dX9_init_129 : decode cX9_init 129 = .ok (.sipush 1320, 3) := by decide +kernel
theorem dX9_init_132 : decode cX9_init 132 = .ok (.newarray .int, 2) := by decide +kernel
theorem dX9_init_134 : decode cX9_init 134 = .ok (.putfield 64, 3) := by decide +kernel
theorem dX9_init_137 : decode cX9_init 137 = .ok (.aload_n 0, 1) := by decide +kernel
theorem dX9_init_138 : decode cX9_init 138 = .ok (.sipush 1320, 3) := by decide +kernel
theorem dX9_init_141 : decode cX9_init 141 = .ok (.newarray .int, 2) := by decide +kernel
theorem dX9_init_143 : decode cX9_init 143 = .ok (.putfield 67, 3) := by decide +kernel
theorem dX9_init_146 : decode cX9_init 146 = .ok (.aload_n 0, 1) := by decide +kernel
theorem dX9_init_147 : decode cX9_init 147 = .ok (.bipush 7, 2) := by decide +kernel
theorem dX9_init_149 : decode cX9_init 149 = .ok (.newarray .int, 2) := by decide +kernel
theorem dX9_init_151 : decode cX9_init 151 = .ok (.putfield 70, 3) := by decide +kernel
theorem dX9_init_154 : decode cX9_init 154 = .ok (.aload_n 0, 1) := by decide +kernel
theorem dX9_init_155 : decode cX9_init 155 = .ok (.bipush 7, 2) := by decide +kernel
theorem dX9_init_157 : decode cX9_init 157 = .ok (.newarray .int, 2) := by decide +kernel
theorem dX9_init_159 : decode cX9_init 159 = .ok (.putfield 73, 3) := by decide +kernel
theorem dX9_init_162 : decode cX9_init 162 = .ok (.aload_n 0, 1) := by decide +kernel
theorem dX9_init_163 : decode cX9_init 163 = .ok (.bipush 7, 2) := by decide +kernel
theorem dX9_init_165 : decode cX9_init 165 = .ok (.newarray .int, 2) := by decide +kernel
theorem dX9_init_167 : decode cX9_init 167 = .ok (.putfield 76, 3) := by decide +kernel
theorem dX9_init_170 : decode cX9_init 170 = .ok (.aload_n 0, 1) := by decide +kernel
theorem dX9_init_171 : decode cX9_init 171 = .ok (.bipush 6, 2) := by decide +kernel
theorem dX9_init_173 : decode cX9_init 173 = .ok (.newarray .int, 2) := by decide +kernel
theorem dX9_init_175 : decode cX9_init 175 = .ok (.putfield 79, 3) := by decide +kernel
theorem dX9_init_178 : decode cX9_init 178 = .ok (.aload_n 0, 1) := by decide +kernel
theorem dX9_init_179 : decode cX9_init 179 = .ok (.sipush 660, 3) := by decide +kernel
theorem dX9_init_182 : decode cX9_init 182 = .ok (.newarray .int, 2) := by decide +kernel
theorem dX9_init_184 : decode cX9_init 184 = .ok (.putfield 82, 3) := by decide +kernel
theorem dX9_init_187 : decode cX9_init 187 = .ok (.aload_n 0, 1) := by decide +kernel
theorem dX9_init_188 : decode cX9_init 188 = .ok (.sipush 480, 3) := by decide +kernel
theorem dX9_init_191 : decode cX9_init 191 = .ok (.newarray .int, 2) := by decide +kernel
theorem dX9_init_193 : decode cX9_init 193 = .ok (.putfield 85, 3) := by decide +kernel
theorem dX9_init_196 : decode cX9_init 196 = .ok (.aload_n 0, 1) := by decide +kernel
theorem dX9_init_197 : decode cX9_init 197 = .ok (.bipush 60, 2) := by decide +kernel
theorem dX9_init_199 : decode cX9_init 199 = .ok (.newarray .boolean, 2) := by decide +kernel
theorem dX9_init_201 : decode cX9_init 201 = .ok (.putfield 88, 3) := by decide +kernel
theorem dX9_init_204 : decode cX9_init 204 = .ok (.aload_n 0, 1) := by decide +kernel
theorem dX9_init_205 : decode cX9_init 205 = .ok (.bipush 8, 2) := by decide +kernel
theorem dX9_init_207 : decode cX9_init 207 = .ok (.newarray .int, 2) := by decide +kernel
theorem dX9_init_209 : decode cX9_init 209 = .ok (.putfield 92, 3) := by decide +kernel
theorem dX9_init_212 : decode cX9_init 212 = .ok (.aload_n 0, 1) := by decide +kernel
theorem dX9_init_213 : decode cX9_init 213 = .ok (.bipush 8, 2) := by decide +kernel
theorem dX9_init_215 : decode cX9_init 215 = .ok (.newarray .int, 2) := by decide +kernel
theorem dX9_init_217 : decode cX9_init 217 = .ok (.putfield 95, 3) := by decide +kernel
theorem dX9_init_220 : decode cX9_init 220 = .ok (.aload_n 0, 1) := by decide +kernel
theorem dX9_init_221 : decode cX9_init 221 = .ok (.bipush 60, 2) := by decide +kernel
theorem dX9_init_223 : decode cX9_init 223 = .ok (.newarray .int, 2) := by decide +kernel
theorem dX9_init_225 : decode cX9_init 225 = .ok (.putfield 98, 3) := by decide +kernel
theorem dX9_init_228 : decode cX9_init 228 = .ok (.aload_n 0, 1) := by decide +kernel
theorem dX9_init_229 : decode cX9_init 229 = .ok (.bipush 60, 2) := by decide +kernel
theorem dX9_init_231 : decode cX9_init 231 = .ok (.newarray .int, 2) := by decide +kernel
theorem dX9_init_233 : decode cX9_init 233 = .ok (.putfield 101, 3) := by decide +kernel
theorem dX9_init_236 : decode cX9_init 236 = .ok (.aload_n 0, 1) := by decide +kernel
theorem dX9_init_237 : decode cX9_init 237 = .ok (.bipush 60, 2) := by decide +kernel
theorem dX9_init_239 : decode cX9_init 239 = .ok (.newarray .int, 2) := by decide +kernel
theorem dX9_init_241 : decode cX9_init 241 = .ok (.putfield 104, 3) := by decide +kernel
theorem dX9_init_244 : decode cX9_init 244 = .ok (.aload_n 0, 1) := by decide +kernel
theorem dX9_init_245 : decode cX9_init 245 = .ok (.bipush 60, 2) := by decide +kernel
theorem dX9_init_247 : decode cX9_init 247 = .ok (.newarray .int, 2) := by decide +kernel
theorem dX9_init_249 : decode cX9_init 249 = .ok (.putfield 107, 3) := by decide +kernel
theorem dX9_init_252 : decode cX9_init 252 = .ok (.aload_n 0, 1) := by decide +kernel
theorem dX9_init_253 : decode cX9_init 253 = .ok (.bipush 60, 2) := by decide +kernel
theorem dX9_init_255 : decode cX9_init 255 = .ok (.newarray .int, 2) := by decide +kernel
theorem dX9_init_257 : decode cX9_init 257 = .ok (.putfield 110, 3) := by decide +kernel
theorem dX9_init_260 : decode cX9_init 260 = .ok (.aload_n 0, 1) := by decide +kernel
theorem dX9_init_261 : decode cX9_init 261 = .ok (.bipush 60, 2) := by decide +kernel
theorem dX9_init_263 : decode cX9_init 263 = .ok (.newarray .boolean, 2) := by decide +kernel
theorem dX9_init_265 : decode cX9_init 265 = .ok (.putfield 113, 3) := by decide +kernel
theorem dX9_init_268 : decode cX9_init 268 = .ok (.aload_n 0, 1) := by decide +kernel
theorem dX9_init_269 : decode cX9_init 269 = .ok (.bipush 60, 2) := by decide +kernel
theorem dX9_init_271 : decode cX9_init 271 = .ok (.newarray .int, 2) := by decide +kernel
theorem dX9_init_273 : decode cX9_init 273 = .ok (.putfield 116, 3) := by decide +kernel
theorem dX9_init_276 : decode cX9_init 276 = .ok (.aload_n 0, 1) := by decide +kernel
theorem dX9_init_277 : decode cX9_init 277 = .ok (.bipush 60, 2) := by decide +kernel
theorem dX9_init_279 : decode cX9_init 279 = .ok (.newarray .int, 2) := by decide +kernel
theorem dX9_init_281 : decode cX9_init 281 = .ok (.putfield 119, 3) := by decide +kernel
theorem dX9_init_284 : decode cX9_init 284 = .ok (.aload_n 0, 1) := by decide +kernel
theorem dX9_init_285 : decode cX9_init 285 = .ok (.bipush 60, 2) := by decide +kernel
theorem dX9_init_287 : decode cX9_init 287 = .ok (.newarray .int, 2) := by decide +kernel
theorem dX9_init_289 : decode cX9_init 289 = .ok (.putfield 122, 3) := by decide +kernel
theorem dX9_init_292 : decode cX9_init 292 = .ok (.aload_n 0, 1) := by decide +kernel
theorem dX9_init_293 : decode cX9_init 293 = .ok (.bipush 60, 2) := by decide +kernel
theorem dX9_init_295 : decode cX9_init 295 = .ok (.newarray .int, 2) := by decide +kernel
theorem dX9_init_297 : decode cX9_init 297 = .ok (.putfield 125, 3) := by decide +kernel
theorem dX9_init_300 : decode cX9_init 300 = .ok (.aload_n 0, 1) := by decide +kernel
theorem dX9_init_301 : decode cX9_init 301 = .ok (.bipush 60, 2) := by decide +kernel
theorem dX9_init_303 : decode cX9_init 303 = .ok (.newarray .int, 2) := by decide +kernel
theorem dX9_init_305 : decode cX9_init 305 = .ok (.putfield 128, 3) := by decide +kernel
theorem dX9_init_308 : decode cX9_init 308 = .ok (.aload_n 0, 1) := by decide +kernel
theorem dX9_init_309 : decode cX9_init 309 = .ok (.bipush 60, 2) := by decide +kernel
theorem dX9_init_311 : decode cX9_init 311 = .ok (.newarray .int, 2) := by decide +kernel
theorem dX9_init_313 : decode cX9_init 313 = .ok (.putfield 131, 3) := by decide +kernel
theorem dX9_init_316 : decode cX9_init 316 = .ok (.aload_n 0, 1) := by decide +kernel
theorem dX9_init_317 : decode cX9_init 317 = .ok (.bipush 60, 2) := by decide +kernel
theorem dX9_init_319 : decode cX9_init 319 = .ok (.newarray .boolean, 2) := by decide +kernel
theorem dX9_init_321 : decode cX9_init 321 = .ok (.putfield 134, 3) := by decide +kernel
theorem dX9_init_324 : decode cX9_init 324 = .ok (.aload_n 0, 1) := by decide +kernel
theorem dX9_init_325 : decode cX9_init 325 = .ok (.bipush 24, 2) := by decide +kernel
theorem dX9_init_327 : decode cX9_init 327 = .ok (.newarray .int, 2) := by decide +kernel
theorem dX9_init_329 : decode cX9_init 329 = .ok (.putfield 137, 3) := by decide +kernel
theorem dX9_init_332 : decode cX9_init 332 = .ok (.aload_n 0, 1) := by decide +kernel
theorem dX9_init_333 : decode cX9_init 333 = .ok (.bipush 24, 2) := by decide +kernel
theorem dX9_init_335 : decode cX9_init 335 = .ok (.newarray .int, 2) := by decide +kernel
theorem dX9_init_337 : decode cX9_init 337 = .ok (.putfield 140, 3) := by decide +kernel
theorem dX9_init_340 : decode cX9_init 340 = .ok (.aload_n 0, 1) := by decide +kernel
theorem dX9_init_341 : decode cX9_init 341 = .ok (.bipush 24, 2) := by decide +kernel
theorem dX9_init_343 : decode cX9_init 343 = .ok (.newarray .int, 2) := by decide +kernel
theorem dX9_init_345 : decode cX9_init 345 = .ok (.putfield 143, 3) := by decide +kernel
theorem dX9_init_348 : decode cX9_init 348 = .ok (.aload_n 0, 1) := by decide +kernel
theorem dX9_init_349 : decode cX9_init 349 = .ok (.bipush 24, 2) := by decide +kernel
theorem dX9_init_351 : decode cX9_init 351 = .ok (.newarray .int, 2) := by decide +kernel
theorem dX9_init_353 : decode cX9_init 353 = .ok (.putfield 146, 3) := by decide +kernel
theorem dX9_init_356 : decode cX9_init 356 = .ok (.aload_n 0, 1) := by decide +kernel
theorem dX9_init_357 : decode cX9_init 357 = .ok (.bipush 24, 2) := by decide +kernel
theorem dX9_init_359 : decode cX9_init 359 = .ok (.newarray .boolean, 2) := by decide +kernel
theorem dX9_init_361 : decode cX9_init 361 = .ok (.putfield 149, 3) := by decide +kernel
theorem dX9_init_364 : decode cX9_init 364 = .ok (.aload_n 0, 1) := by decide +kernel
theorem dX9_init_365 : decode cX9_init 365 = .ok (.bipush 24, 2) := by decide +kernel
theorem dX9_init_367 : decode cX9_init 367 = .ok (.newarray .boolean, 2) := by decide +kernel
theorem dX9_init_369 : decode cX9_init 369 = .ok (.putfield 152, 3) := by decide +kernel
theorem dX9_init_372 : decode cX9_init 372 = .ok (.aload_n 0, 1) := by decide +kernel
theorem dX9_init_373 : decode cX9_init 373 = .ok (.bipush 8, 2) := by decide +kernel
theorem dX9_init_375 : decode cX9_init 375 = .ok (.newarray .int, 2) := by decide +kernel
theorem dX9_init_377 : decode cX9_init 377 = .ok (.putfield 155, 3) := by decide +kernel
theorem dX9_init_380 : decode cX9_init 380 = .ok (.aload_n 0, 1) := by decide +kernel
theorem dX9_init_381 : decode cX9_init 381 = .ok (.bipush 8, 2) := by decide +kernel
theorem dX9_init_383 : decode cX9_init 383 = .ok (.newarray .int, 2) := by decide +kernel
theorem dX9_init_385 : decode cX9_init 385 = .ok (.putfield 158, 3) := by decide +kernel
theorem dX9_init_388 : decode cX9_init 388 = .ok (.iconst 0, 1) := by decide +kernel
theorem dX9_init_389 : decode cX9_init 389 = .ok (.istore_n 1, 1) := by decide +kernel
theorem dX9_init_390 : decode cX9_init 390 = .ok (.iload_n 1, 1) := by decide +kernel
theorem dX9_init_391 : decode cX9_init 391 = .ok (.sipush 480, 3) := by decide +kernel
theorem dX9_init_394 : decode cX9_init 394 = .ok (.if_icmp .ge 16, 3) := by decide +kernel
theorem dX9_init_397 : decode cX9_init 397 = .ok (.aload_n 0, 1) := by decide +kernel
theorem dX9_init_398 : decode cX9_init 398 = .ok (.getfield 85, 3) := by decide +kernel
theorem dX9_init_401 : decode cX9_init 401 = .ok (.iload_n 1, 1) := by decide +kernel
theorem dX9_init_402 : decode cX9_init 402 = .ok (.iconst (-1), 1) := by decide +kernel
theorem dX9_init_403 : decode cX9_init 403 = .ok (.iastore, 1) := by decide +kernel
theorem dX9_init_404 : decode cX9_init 404 = .ok (.iinc 1 1, 3) := by decide +kernel
theorem dX9_init_407 : decode cX9_init 407 = .ok (.goto (-17), 3) := by decide +kernel
theorem dX9_init_410 : decode cX9_init 410 = .ok (.return_, 1) := by decide +kernel
theorem dX9_isLetter_0 : decode cX9_isLetter 0 = .ok (.iload_n 0, 1) := by decide +kernel
theorem dX9_isLetter_1 : decode cX9_isLetter 1 = .ok (.bipush 97, 2) := by decide +kernel
theorem dX9_isLetter_3 : decode cX9_isLetter 3 = .ok (.if_icmp .lt 13, 3) := by decide +kernel
theorem dX9_isLetter_6 : decode cX9_isLetter 6 = .ok (.iload_n 0, 1) := by decide +kernel
theorem dX9_isLetter_7 : decode cX9_isLetter 7 = .ok (.bipush 122, 2) := by decide +kernel
theorem dX9_isLetter_9 : decode cX9_isLetter 9 = .ok (.if_icmp .gt 7, 3) := by decide +kernel
theorem dX9_isLetter_12 : decode cX9_isLetter 12 = .ok (.iconst 1, 1) := by decide +kernel
theorem dX9_isLetter_13 : decode cX9_isLetter 13 = .ok (.goto 4, 3) := by decide +kernel
theorem dX9_isLetter_16 : decode cX9_isLetter 16 = .ok (.iconst 0, 1) := by decide +kernel
theorem dX9_isLetter_17 : decode cX9_isLetter 17 = .ok (.ireturn, 1) := by decide +kernel
theorem dX9_isDigit_0 : decode cX9_isDigit 0 = .ok (.iload_n 0, 1) := by decide +kernel
theorem dX9_isDigit_1 : decode cX9_isDigit 1 = .ok (.bipush 48, 2) := by decide +kernel
theorem dX9_isDigit_3 : decode cX9_isDigit 3 = .ok (.if_icmp .lt 13, 3) := by decide +kernel
theorem dX9_isDigit_6 : decode cX9_isDigit 6 = .ok (.iload_n 0, 1) := by decide +kernel
theorem dX9_isDigit_7 : decode cX9_isDigit 7 = .ok (.bipush 57, 2) := by decide +kernel
theorem dX9_isDigit_9 : decode cX9_isDigit 9 = .ok (.if_icmp .gt 7, 3) := by decide +kernel
theorem dX9_isDigit_12 : decode cX9_isDigit 12 = .ok (.iconst 1, 1) := by decide +kernel
theorem dX9_isDigit_13 : decode cX9_isDigit 13 = .ok (.goto 4, 3) := by decide +kernel
theorem dX9_isDigit_16 : decode cX9_isDigit 16 = .ok (.iconst 0, 1) := by decide +kernel
theorem dX9_isDigit_17 : decode cX9_isDigit 17 = .ok (.ireturn, 1) := by decide +kernel
set_option maxRecDepth 20000 in
theorem ggX9_rank_X9_isLetter : GoodIn wsX9_rank wsX9_isLetter := goodIn_r _ [4] (by decide +kernel) (by decide +kernel)
set_option maxRecDepth 20000 in
theorem gX9_rank_X9_isLetter : GoodIn wsX9_rank (va_wsS RX9 161 yX9_isLetter wsX9_isLetter) := goodIn_app (goodIn_of _ (by decide +kernel)) ggX9_rank_X9_isLetter
theorem dX9_rank_0 : decode cX9_rank 0 = .ok (.iload_n 0, 1) := by decide +kernel
theorem dX9_rank_1 : decode cX9_rank 1 = .ok (.invokestatic 161, 3) := by decide +kernel
theorem dX9_rank_4 : decode cX9_rank 4 = .ok (.ifCond .eq 10, 3) := by decide +kernel
theorem dX9_rank_7 : decode cX9_rank 7 = .ok (.iload_n 0, 1) := by decide +kernel
theorem dX9_rank_8 : decode cX9_rank 8 = .ok (.bipush 96, 2) := by decide +kernel
theorem dX9_rank_10 : decode cX9_rank 10 = .ok (.isub, 1) := by decide +kernel
theorem dX9_rank_11 : decode cX9_rank 11 = .ok (.goto 7, 3) := by decide +kernel
theorem dX9_rank_14 : decode cX9_rank 14 = .ok (.iload_n 0, 1) := by decide +kernel
theorem dX9_rank_15 : decode cX9_rank 15 = .ok (.bipush 21, 2) := by decide +kernel
theorem dX9_rank_17 : decode cX9_rank 17 = .ok (.isub, 1) := by decide +kernel
theorem dX9_rank_18 : decode cX9_rank 18 = .ok (.ireturn, 1) := by decide +kernel
theorem dX9_isSignOf_0 : decode cX9_isSignOf 0 = .ok (.iload_n 0, 1) := by decide +kernel
theorem dX9_isSignOf_1 : decode cX9_isSignOf 1 = .ok (.bipush 40, 2) := by decide +kernel
theorem dX9_isSignOf_3 : decode cX9_isSignOf 3 = .ok (.if_icmp .eq 39, 3) := by decide +kernel
theorem dX9_isSignOf_6 : decode cX9_isSignOf 6 = .ok (.iload_n 0, 1) := by decide +kernel
theorem dX9_isSignOf_7 : decode cX9_isSignOf 7 = .ok (.bipush 41, 2) := by decide +kernel
theorem dX9_isSignOf_9 : decode cX9_isSignOf 9 = .ok (.if_icmp .eq 33, 3) := by decide +kernel
theorem dX9_isSignOf_12 : decode cX9_isSignOf 12 = .ok (.iload_n 0, 1) := by decide +kernel
theorem dX9_isSignOf_13 : decode cX9_isSignOf 13 = .ok (.bipush 59, 2) := by decide +kernel
theorem dX9_isSignOf_15 : decode cX9_isSignOf 15 = .ok (.if_icmp .eq 27, 3) := by decide +kernel
theorem dX9_isSignOf_18 : decode cX9_isSignOf 18 = .ok (.iload_n 0, 1) := by decide +kernel
theorem dX9_isSignOf_19 : decode cX9_isSignOf 19 = .ok (.bipush 61, 2) := by decide +kernel
theorem dX9_isSignOf_21 : decode cX9_isSignOf 21 = .ok (.if_icmp .eq 21, 3) := by decide +kernel
theorem dX9_isSignOf_24 : decode cX9_isSignOf 24 = .ok (.iload_n 0, 1) := by decide +kernel
theorem dX9_isSignOf_25 : decode cX9_isSignOf 25 = .ok (.bipush 60, 2) := by decide +kernel
theorem dX9_isSignOf_27 : decode cX9_isSignOf 27 = .ok (.if_icmp .eq 15, 3) := by decide +kernel
theorem dX9_isSignOf_30 : decode cX9_isSignOf 30 = .ok (.iload_n 0, 1) := by decide +kernel
theorem dX9_isSignOf_31 : decode cX9_isSignOf 31 = .ok (.bipush 43, 2) := by decide +kernel
theorem dX9_isSignOf_33 : decode cX9_isSignOf 33 = .ok (.if_icmp .eq 9, 3) := by decide +kernel
theorem dX9_isSignOf_36 : decode cX9_isSignOf 36 = .ok (.iload_n 0, 1) := by decide +kernel
theorem dX9_isSignOf_37 : decode cX9_isSignOf 37 = .ok (.bipush 45, 2) := by decide +kernel
theorem dX9_isSignOf_39 : decode cX9_isSignOf 39 = .ok (.if_icmp .ne 7, 3) := by decide +kernel
theorem dX9_isSignOf_42 : decode cX9_isSignOf 42 = .ok (.iconst 1, 1) := by decide +kernel
theorem dX9_isSignOf_43 : decode cX9_isSignOf 43 = .ok (.goto 4, 3) := by decide +kernel
theorem dX9_isSignOf_46 : decode cX9_isSignOf 46 = .ok (.iconst 0, 1) := by decide +kernel
theorem dX9_isSignOf_47 : decode cX9_isSignOf 47 = .ok (.ireturn, 1) := by decide +kernel
set_option maxRecDepth 20000 in
theorem ggX9_cutAll_X9_isLetter : GoodIn wsX9_cutAll wsX9_isLetter := goodIn_r _ [15] (by decide +kernel) (by decide +kernel)
set_option maxRecDepth 20000 in
theorem gX9_cutAll_X9_isLetter : GoodIn wsX9_cutAll (va_wsS RX9 161 yX9_isLetter wsX9_isLetter) := goodIn_app (goodIn_of _ (by decide +kernel)) ggX9_cutAll_X9_isLetter
set_option maxRecDepth 20000 in
theorem ggX9_cutAll_X9_rank : GoodIn wsX9_cutAll wsX9_rank := goodIn_r _ [18, 12, 13, 14, 15] (by decide +kernel) (by decide +kernel)
set_option maxRecDepth 20000 in
theorem gX9_cutAll_X9_rank : GoodIn wsX9_cutAll (va_wsS RX9 170 yX9_rank wsX9_rank) := goodIn_app (goodIn_of _ (by decide +kernel)) ggX9_cutAll_X9_rank
set_option maxRecDepth 20000 in
theorem ggX9_cutAll_X9_isDigit : GoodIn wsX9_cutAll wsX9_isDigit := goodIn_r _ [21] (by decide +kernel) (by decide +kernel)
set_option maxRecDepth 20000 in
theorem gX9_cutAll_X9_isDigit : GoodIn wsX9_cutAll (va_wsS RX9 173 yX9_isDigit wsX9_isDigit) := goodIn_app (goodIn_of _ (by decide +kernel)) ggX9_cutAll_X9_isDigit
set_option maxRecDepth 20000 in
theorem ggX9_cutAll_X9_isSignOf : GoodIn wsX9_cutAll wsX9_isSignOf := goodIn_r _ [24] (by decide +kernel) (by decide +kernel)
set_option maxRecDepth 20000 in
theorem gX9_cutAll_X9_isSignOf : GoodIn wsX9_cutAll (va_wsS RX9 180 yX9_isSignOf wsX9_isSignOf) := goodIn_app (goodIn_of _ (by decide +kernel)) ggX9_cutAll_X9_isSignOf
theorem dX9_cutAll_0 : decode cX9_cutAll 0 = .ok (.aload_n 0, 1) := by decide +kernel
theorem dX9_cutAll_1 : decode cX9_cutAll 1 = .ok (.aload_n 0, 1) := by decide +kernel
theorem dX9_cutAll_2 : decode cX9_cutAll 2 = .ok (.getfield 11, 3) := by decide +kernel
theorem dX9_cutAll_5 : decode cX9_cutAll 5 = .ok (.putfield 165, 3) := by decide +kernel
theorem dX9_cutAll_8 : decode cX9_cutAll 8 = .ok (.aload_n 0, 1) := by decide +kernel
theorem dX9_cutAll_9 : decode cX9_cutAll 9 = .ok (.iconst 0, 1) := by decide +kernel
theorem dX9_cutAll_10 : decode cX9_cutAll 10 = .ok (.putfield 11, 3) := by decide +kernel
theorem dX9_cutAll_13 : decode cX9_cutAll 13 = .ok (.iconst 0, 1) := by decide +kernel
theorem dX9_cutAll_14 : decode cX9_cutAll 14 = .ok (.istore_n 1, 1) := by decide +kernel
theorem dX9_cutAll_15 : decode cX9_cutAll 15 = .ok (.iconst 0, 1) := by decide +kernel
theorem dX9_cutAll_16 : decode cX9_cutAll 16 = .ok (.istore_n 2, 1) := by decide +kernel
theorem dX9_cutAll_17 : decode cX9_cutAll 17 = .ok (.iload_n 2, 1) := by decide +kernel
theorem dX9_cutAll_18 : decode cX9_cutAll 18 = .ok (.aload_n 0, 1) := by decide +kernel
theorem dX9_cutAll_19 : decode cX9_cutAll 19 = .ok (.getfield 165, 3) := by decide +kernel
theorem dX9_cutAll_22 : decode cX9_cutAll 22 = .ok (.if_icmp .ge 257, 3) := by decide +kernel
theorem dX9_cutAll_25 : decode cX9_cutAll 25 = .ok (.aload_n 0, 1) := by decide +kernel
theorem dX9_cutAll_26 : decode cX9_cutAll 26 = .ok (.getfield 14, 3) := by decide +kernel
theorem dX9_cutAll_29 : decode cX9_cutAll 29 = .ok (.iload_n 2, 1) := by decide +kernel
theorem dX9_cutAll_30 : decode cX9_cutAll 30 = .ok (.iaload, 1) := by decide +kernel
theorem dX9_cutAll_31 : decode cX9_cutAll 31 = .ok (.istore_n 3, 1) := by decide +kernel
theorem dX9_cutAll_32 : decode cX9_cutAll 32 = .ok (.iload_n 3, 1) := by decide +kernel
theorem dX9_cutAll_33 : decode cX9_cutAll 33 = .ok (.bipush 10, 2) := by decide +kernel
theorem dX9_cutAll_35 : decode cX9_cutAll 35 = .ok (.if_icmp .eq 9, 3) := by decide +kernel
theorem dX9_cutAll_38 : decode cX9_cutAll 38 = .ok (.iload_n 3, 1) := by decide +kernel
theorem dX9_cutAll_39 : decode cX9_cutAll 39 = .ok (.bipush 32, 2) := by decide +kernel
theorem dX9_cutAll_41 : decode cX9_cutAll 41 = .ok (.if_icmp .ne 9, 3) := by decide +kernel
theorem dX9_cutAll_44 : decode cX9_cutAll 44 = .ok (.iinc 2 1, 3) := by decide +kernel
theorem dX9_cutAll_47 : decode cX9_cutAll 47 = .ok (.goto (-30), 3) := by decide +kernel
theorem dX9_cutAll_50 : decode cX9_cutAll 50 = .ok (.iload_n 2, 1) := by decide +kernel
theorem dX9_cutAll_51 : decode cX9_cutAll 51 = .ok (.istore 4, 2) := by decide +kernel
theorem dX9_cutAll_53 : decode cX9_cutAll 53 = .ok (.lconst 0, 1) := by decide +kernel
theorem dX9_cutAll_54 : decode cX9_cutAll 54 = .ok (.lstore 5, 2) := by decide +kernel
theorem dX9_cutAll_56 : decode cX9_cutAll 56 = .ok (.aload_n 0, 1) := by decide +kernel
theorem dX9_cutAll_57 : decode cX9_cutAll 57 = .ok (.getfield 27, 3) := by decide +kernel
theorem dX9_cutAll_60 : decode cX9_cutAll 60 = .ok (.iload_n 1, 1) := by decide +kernel
theorem dX9_cutAll_61 : decode cX9_cutAll 61 = .ok (.iload_n 2, 1) := by decide +kernel
theorem dX9_cutAll_62 : decode cX9_cutAll 62 = .ok (.iastore, 1) := by decide +kernel
theorem dX9_cutAll_63 : decode cX9_cutAll 63 = .ok (.iload_n 3, 1) := by decide +kernel
theorem dX9_cutAll_64 : decode cX9_cutAll 64 = .ok (.invokestatic 161, 3) := by decide +kernel
theorem dX9_cutAll_67 : decode cX9_cutAll 67 = .ok (.ifCond .eq 85, 3) := by decide +kernel
theorem dX9_cutAll_70 : decode cX9_cutAll 70 = .ok (.iload_n 2, 1) := by decide +kernel
theorem dX9_cutAll_71 : decode cX9_cutAll 71 = .ok (.aload_n 0, 1) := by decide +kernel
theorem dX9_cutAll_72 : decode cX9_cutAll 72 = .ok (.getfield 165, 3) := by decide +kernel
theorem dX9_cutAll_75 : decode cX9_cutAll 75 = .ok (.if_icmp .ge 54, 3) := by decide +kernel
theorem dX9_cutAll_78 : decode cX9_cutAll 78 = .ok (.aload_n 0, 1) := by decide +kernel
theorem dX9_cutAll_79 : decode cX9_cutAll 79 = .ok (.getfield 14, 3) := by decide +kernel
theorem dX9_cutAll_82 : decode cX9_cutAll 82 = .ok (.iload_n 2, 1) := by decide +kernel
theorem dX9_cutAll_83 : decode cX9_cutAll 83 = .ok (.iaload, 1) := by decide +kernel
theorem dX9_cutAll_84 : decode cX9_cutAll 84 = .ok (.invokestatic 161, 3) := by decide +kernel
theorem dX9_cutAll_87 : decode cX9_cutAll 87 = .ok (.ifCond .eq 42, 3) := by decide +kernel
theorem dX9_cutAll_90 : decode cX9_cutAll 90 = .ok (.iload_n 2, 1) := by decide +kernel
theorem dX9_cutAll_91 : decode cX9_cutAll 91 = .ok (.iload 4, 2) := by decide +kernel
theorem dX9_cutAll_93 : decode cX9_cutAll 93 = .ok (.isub, 1) := by decide +kernel
theorem dX9_cutAll_94 : decode cX9_cutAll 94 = .ok (.bipush 8, 2) := by decide +kernel
theorem dX9_cutAll_96 : decode cX9_cutAll 96 = .ok (.if_icmp .ge 23, 3) := by decide +kernel
theorem dX9_cutAll_99 : decode cX9_cutAll 99 = .ok (.ldc2_w 168, 3) := by decide +kernel
theorem dX9_cutAll_102 : decode cX9_cutAll 102 = .ok (.lload 5, 2) := by decide +kernel
theorem dX9_cutAll_104 : decode cX9_cutAll 104 = .ok (.lmul, 1) := by decide +kernel
theorem dX9_cutAll_105 : decode cX9_cutAll 105 = .ok (.aload_n 0, 1) := by decide +kernel
theorem dX9_cutAll_106 : decode cX9_cutAll 106 = .ok (.getfield 14, 3) := by decide +kernel
theorem dX9_cutAll_109 : decode cX9_cutAll 109 = .ok (.iload_n 2, 1) := by decide +kernel
theorem dX9_cutAll_110 : decode cX9_cutAll 110 = .ok (.iaload, 1) := by decide +kernel
theorem dX9_cutAll_111 : decode cX9_cutAll 111 = .ok (.invokestatic 170, 3) := by decide +kernel
theorem dX9_cutAll_114 : decode cX9_cutAll 114 = .ok (.i2l, 1) := by decide +kernel
theorem dX9_cutAll_115 : decode cX9_cutAll 115 = .ok (.ladd, 1) := by decide +kernel
theorem dX9_cutAll_116 : decode cX9_cutAll 116 = .ok (.goto 5, 3) := by decide +kernel
theorem dX9_cutAll_119 : decode cX9_cutAll 119 = .ok (.lload 5, 2) := by decide +kernel
theorem dX9_cutAll_121 : decode cX9_cutAll 121 = .ok (.lstore 5, 2) := by decide +kernel
theorem dX9_cutAll_123 : decode cX9_cutAll 123 = .ok (.iinc 2 1, 3) := by decide +kernel
theorem dX9_cutAll_126 : decode cX9_cutAll 126 = .ok (.goto (-56), 3) := by decide +kernel
theorem dX9_cutAll_129 : decode cX9_cutAll 129 = .ok (.aload_n 0, 1) := by decide +kernel
theorem dX9_cutAll_130 : decode cX9_cutAll 130 = .ok (.getfield 24, 3) := by decide +kernel
theorem dX9_cutAll_133 : decode cX9_cutAll 133 = .ok (.iload_n 1, 1) := by decide +kernel
theorem dX9_cutAll_134 : decode cX9_cutAll 134 = .ok (.iload_n 2, 1) := by decide +kernel
theorem dX9_cutAll_135 : decode cX9_cutAll 135 = .ok (.iload 4, 2) := by decide +kernel
theorem dX9_cutAll_137 : decode cX9_cutAll 137 = .ok (.isub, 1) := by decide +kernel
theorem dX9_cutAll_138 : decode cX9_cutAll 138 = .ok (.bipush 8, 2) := by decide +kernel
theorem dX9_cutAll_140 : decode cX9_cutAll 140 = .ok (.if_icmp .le 7, 3) := by decide +kernel
theorem dX9_cutAll_143 : decode cX9_cutAll 143 = .ok (.iconst 4, 1) := by decide +kernel
theorem dX9_cutAll_144 : decode cX9_cutAll 144 = .ok (.goto 4, 3) := by decide +kernel
theorem dX9_cutAll_147 : decode cX9_cutAll 147 = .ok (.iconst 1, 1) := by decide +kernel
theorem dX9_cutAll_148 : decode cX9_cutAll 148 = .ok (.iastore, 1) := by decide +kernel
theorem dX9_cutAll_149 : decode cX9_cutAll 149 = .ok (.goto 116, 3) := by decide +kernel
theorem dX9_cutAll_152 : decode cX9_cutAll 152 = .ok (.iload_n 3, 1) := by decide +kernel
theorem dX9_cutAll_153 : decode cX9_cutAll 153 = .ok (.invokestatic 173, 3) := by decide +kernel
theorem dX9_cutAll_156 : decode cX9_cutAll 156 = .ok (.ifCond .eq 84, 3) := by decide +kernel
theorem dX9_cutAll_159 : decode cX9_cutAll 159 = .ok (.iload_n 2, 1) := by decide +kernel
theorem dX9_cutAll_160 : decode cX9_cutAll 160 = .ok (.aload_n 0, 1) := by decide +kernel
theorem dX9_cutAll_161 : decode cX9_cutAll 161 = .ok (.getfield 165, 3) := by decide +kernel
theorem dX9_cutAll_164 : decode cX9_cutAll 164 = .ok (.if_icmp .ge 54, 3) := by decide +kernel
theorem dX9_cutAll_167 : decode cX9_cutAll 167 = .ok (.aload_n 0, 1) := by decide +kernel
theorem dX9_cutAll_168 : decode cX9_cutAll 168 = .ok (.getfield 14, 3) := by decide +kernel
theorem dX9_cutAll_171 : decode cX9_cutAll 171 = .ok (.iload_n 2, 1) := by decide +kernel
theorem dX9_cutAll_172 : decode cX9_cutAll 172 = .ok (.iaload, 1) := by decide +kernel
theorem dX9_cutAll_173 : decode cX9_cutAll 173 = .ok (.invokestatic 173, 3) := by decide +kernel
theorem dX9_cutAll_176 : decode cX9_cutAll 176 = .ok (.ifCond .eq 42, 3) := by decide +kernel
theorem dX9_cutAll_179 : decode cX9_cutAll 179 = .ok (.iload_n 2, 1) := by decide +kernel
theorem dX9_cutAll_180 : decode cX9_cutAll 180 = .ok (.iload 4, 2) := by decide +kernel
theorem dX9_cutAll_182 : decode cX9_cutAll 182 = .ok (.isub, 1) := by decide +kernel
theorem dX9_cutAll_183 : decode cX9_cutAll 183 = .ok (.iconst 4, 1) := by decide +kernel
theorem dX9_cutAll_184 : decode cX9_cutAll 184 = .ok (.if_icmp .ge 24, 3) := by decide +kernel
theorem dX9_cutAll_187 : decode cX9_cutAll 187 = .ok (.ldc2_w 176, 3) := by decide +kernel
theorem dX9_cutAll_190 : decode cX9_cutAll 190 = .ok (.lload 5, 2) := by decide +kernel
theorem dX9_cutAll_192 : decode cX9_cutAll 192 = .ok (.lmul, 1) := by decide +kernel
theorem dX9_cutAll_193 : decode cX9_cutAll 193 = .ok (.aload_n 0, 1) := by decide +kernel
theorem dX9_cutAll_194 : decode cX9_cutAll 194 = .ok (.getfield 14, 3) := by decide +kernel
theorem dX9_cutAll_197 : decode cX9_cutAll 197 = .ok (.iload_n 2, 1) := by decide +kernel
theorem dX9_cutAll_198 : decode cX9_cutAll 198 = .ok (.iaload, 1) := by decide +kernel
theorem dX9_cutAll_199 : decode cX9_cutAll 199 = .ok (.i2l, 1) := by decide +kernel
theorem dX9_cutAll_200 : decode cX9_cutAll 200 = .ok (.ladd, 1) := by decide +kernel
theorem dX9_cutAll_201 : decode cX9_cutAll 201 = .ok (.ldc2_w 178, 3) := by decide +kernel
theorem dX9_cutAll_204 : decode cX9_cutAll 204 = .ok (.lsub, 1) := by decide +kernel
theorem dX9_cutAll_205 : decode cX9_cutAll 205 = .ok (.goto 5, 3) := by decide +kernel
theorem dX9_cutAll_208 : decode cX9_cutAll 208 = .ok (.lload 5, 2) := by decide +kernel
theorem dX9_cutAll_210 : decode cX9_cutAll 210 = .ok (.lstore 5, 2) := by decide +kernel
theorem dX9_cutAll_212 : decode cX9_cutAll 212 = .ok (.iinc 2 1, 3) := by decide +kernel
theorem dX9_cutAll_215 : decode cX9_cutAll 215 = .ok (.goto (-56), 3) := by decide +kernel
theorem dX9_cutAll_218 : decode cX9_cutAll 218 = .ok (.aload_n 0, 1) := by decide +kernel
theorem dX9_cutAll_219 : decode cX9_cutAll 219 = .ok (.getfield 24, 3) := by decide +kernel
theorem dX9_cutAll_222 : decode cX9_cutAll 222 = .ok (.iload_n 1, 1) := by decide +kernel
theorem dX9_cutAll_223 : decode cX9_cutAll 223 = .ok (.iload_n 2, 1) := by decide +kernel
theorem dX9_cutAll_224 : decode cX9_cutAll 224 = .ok (.iload 4, 2) := by decide +kernel
theorem dX9_cutAll_226 : decode cX9_cutAll 226 = .ok (.isub, 1) := by decide +kernel
theorem dX9_cutAll_227 : decode cX9_cutAll 227 = .ok (.iconst 4, 1) := by decide +kernel
theorem dX9_cutAll_228 : decode cX9_cutAll 228 = .ok (.if_icmp .le 7, 3) := by decide +kernel
theorem dX9_cutAll_231 : decode cX9_cutAll 231 = .ok (.iconst 4, 1) := by decide +kernel
theorem dX9_cutAll_232 : decode cX9_cutAll 232 = .ok (.goto 4, 3) := by decide +kernel
theorem dX9_cutAll_235 : decode cX9_cutAll 235 = .ok (.iconst 2, 1) := by decide +kernel
theorem dX9_cutAll_236 : decode cX9_cutAll 236 = .ok (.iastore, 1) := by decide +kernel
theorem dX9_cutAll_237 : decode cX9_cutAll 237 = .ok (.goto 28, 3) := by decide +kernel
theorem dX9_cutAll_240 : decode cX9_cutAll 240 = .ok (.iload_n 3, 1) := by decide +kernel
theorem dX9_cutAll_241 : decode cX9_cutAll 241 = .ok (.i2l, 1) := by decide +kernel
theorem dX9_cutAll_242 : decode cX9_cutAll 242 = .ok (.lstore 5, 2) := by decide +kernel
theorem dX9_cutAll_244 : decode cX9_cutAll 244 = .ok (.aload_n 0, 1) := by decide +kernel
theorem dX9_cutAll_245 : decode cX9_cutAll 245 = .ok (.getfield 24, 3) := by decide +kernel
theorem dX9_cutAll_248 : decode cX9_cutAll 248 = .ok (.iload_n 1, 1) := by decide +kernel
theorem dX9_cutAll_249 : decode cX9_cutAll 249 = .ok (.iload_n 3, 1) := by decide +kernel
theorem dX9_cutAll_250 : decode cX9_cutAll 250 = .ok (.invokestatic 180, 3) := by decide +kernel
theorem dX9_cutAll_253 : decode cX9_cutAll 253 = .ok (.ifCond .eq 7, 3) := by decide +kernel
theorem dX9_cutAll_256 : decode cX9_cutAll 256 = .ok (.iconst 3, 1) := by decide +kernel
theorem dX9_cutAll_257 : decode cX9_cutAll 257 = .ok (.goto 4, 3) := by decide +kernel
theorem dX9_cutAll_260 : decode cX9_cutAll 260 = .ok (.iconst 4, 1) := by decide +kernel
theorem dX9_cutAll_261 : decode cX9_cutAll 261 = .ok (.iastore, 1) := by decide +kernel
theorem dX9_cutAll_262 : decode cX9_cutAll 262 = .ok (.iinc 2 1, 3) := by decide +kernel
theorem dX9_cutAll_265 : decode cX9_cutAll 265 = .ok (.aload_n 0, 1) := by decide +kernel
theorem dX9_cutAll_266 : decode cX9_cutAll 266 = .ok (.getfield 30, 3) := by decide +kernel
theorem dX9_cutAll_269 : decode cX9_cutAll 269 = .ok (.iload_n 1, 1) := by decide +kernel
theorem dX9_cutAll_270 : decode cX9_cutAll 270 = .ok (.lload 5, 2) := by decide +kernel
theorem dX9_cutAll_272 : decode cX9_cutAll 272 = .ok (.lastore, 1) := by decide +kernel
theorem dX9_cutAll_273 : decode cX9_cutAll 273 = .ok (.iinc 1 1, 3) := by decide +kernel
theorem dX9_cutAll_276 : decode cX9_cutAll 276 = .ok (.goto (-259), 3) := by decide +kernel
theorem dX9_cutAll_279 : decode cX9_cutAll 279 = .ok (.aload_n 0, 1) := by decide +kernel
theorem dX9_cutAll_280 : decode cX9_cutAll 280 = .ok (.getfield 24, 3) := by decide +kernel
theorem dX9_cutAll_283 : decode cX9_cutAll 283 = .ok (.iload_n 1, 1) := by decide +kernel
theorem dX9_cutAll_284 : decode cX9_cutAll 284 = .ok (.iconst 0, 1) := by decide +kernel
theorem dX9_cutAll_285 : decode cX9_cutAll 285 = .ok (.iastore, 1) := by decide +kernel
theorem dX9_cutAll_286 : decode cX9_cutAll 286 = .ok (.aload_n 0, 1) := by decide +kernel
theorem dX9_cutAll_287 : decode cX9_cutAll 287 = .ok (.getfield 27, 3) := by decide +kernel
theorem dX9_cutAll_290 : decode cX9_cutAll 290 = .ok (.iload_n 1, 1) := by decide +kernel
theorem dX9_cutAll_291 : decode cX9_cutAll 291 = .ok (.aload_n 0, 1) := by decide +kernel
theorem dX9_cutAll_292 : decode cX9_cutAll 292 = .ok (.getfield 165, 3) := by decide +kernel
theorem dX9_cutAll_295 : decode cX9_cutAll 295 = .ok (.iastore, 1) := by decide +kernel
theorem dX9_cutAll_296 : decode cX9_cutAll 296 = .ok (.aload_n 0, 1) := by decide +kernel
theorem dX9_cutAll_297 : decode cX9_cutAll 297 = .ok (.iconst 0, 1) := by decide +kernel
theorem dX9_cutAll_298 : decode cX9_cutAll 298 = .ok (.putfield 183, 3) := by decide +kernel
theorem dX9_cutAll_301 : decode cX9_cutAll 301 = .ok (.aload_n 0, 1) := by decide +kernel
theorem dX9_cutAll_302 : decode cX9_cutAll 302 = .ok (.iconst 0, 1) := by decide +kernel
theorem dX9_cutAll_303 : decode cX9_cutAll 303 = .ok (.putfield 186, 3) := by decide +kernel
theorem dX9_cutAll_306 : decode cX9_cutAll 306 = .ok (.return_, 1) := by decide +kernel
theorem dX9_wrong_0 : decode cX9_wrong 0 = .ok (.aload_n 0, 1) := by decide +kernel
theorem dX9_wrong_1 : decode cX9_wrong 1 = .ok (.getfield 186, 3) := by decide +kernel
theorem dX9_wrong_4 : decode cX9_wrong 4 = .ok (.ifCond .ne 21, 3) := by decide +kernel
theorem dX9_wrong_7 : decode cX9_wrong 7 = .ok (.aload_n 0, 1) := by decide +kernel
theorem dX9_wrong_8 : decode cX9_wrong 8 = .ok (.iload_n 1, 1) := by decide +kernel
theorem dX9_wrong_9 : decode cX9_wrong 9 = .ok (.bipush 16, 2) := by decide +kernel
theorem dX9_wrong_11 : decode cX9_wrong 11 = .ok (.aload_n 0, 1) := by decide +kernel
theorem dX9_wrong_12 : decode cX9_wrong 12 = .ok (.getfield 27, 3) := by decide +kernel
theorem dX9_wrong_15 : decode cX9_wrong 15 = .ok (.aload_n 0, 1) := by decide +kernel
theorem dX9_wrong_16 : decode cX9_wrong 16 = .ok (.getfield 183, 3) := by decide +kernel
theorem dX9_wrong_19 : decode cX9_wrong 19 = .ok (.iaload, 1) := by decide +kernel
theorem dX9_wrong_20 : decode cX9_wrong 20 = .ok (.imul, 1) := by decide +kernel
theorem dX9_wrong_21 : decode cX9_wrong 21 = .ok (.iadd, 1) := by decide +kernel
theorem dX9_wrong_22 : decode cX9_wrong 22 = .ok (.putfield 186, 3) := by decide +kernel
theorem dX9_wrong_25 : decode cX9_wrong 25 = .ok (.return_, 1) := by decide +kernel
theorem dX9_isSign_0 : decode cX9_isSign 0 = .ok (.aload_n 0, 1) := by decide +kernel
theorem dX9_isSign_1 : decode cX9_isSign 1 = .ok (.getfield 186, 3) := by decide +kernel
theorem dX9_isSign_4 : decode cX9_isSign 4 = .ok (.ifCond .ne 35, 3) := by decide +kernel
theorem dX9_isSign_7 : decode cX9_isSign 7 = .ok (.aload_n 0, 1) := by decide +kernel
theorem dX9_isSign_8 : decode cX9_isSign 8 = .ok (.getfield 24, 3) := by decide +kernel
theorem dX9_isSign_11 : decode cX9_isSign 11 = .ok (.aload_n 0, 1) := by decide +kernel
theorem dX9_isSign_12 : decode cX9_isSign 12 = .ok (.getfield 183, 3) := by decide +kernel
theorem dX9_isSign_15 : decode cX9_isSign 15 = .ok (.iaload, 1) := by decide +kernel
theorem dX9_isSign_16 : decode cX9_isSign 16 = .ok (.iconst 3, 1) := by decide +kernel
theorem dX9_isSign_17 : decode cX9_isSign 17 = .ok (.if_icmp .ne 22, 3) := by decide +kernel
theorem dX9_isSign_20 : decode cX9_isSign 20 = .ok (.aload_n 0, 1) := by decide +kernel
theorem dX9_isSign_21 : decode cX9_isSign 21 = .ok (.getfield 30, 3) := by decide +kernel
theorem dX9_isSign_24 : decode cX9_isSign 24 = .ok (.aload_n 0, 1) := by decide +kernel
theorem dX9_isSign_25 : decode cX9_isSign 25 = .ok (.getfield 183, 3) := by decide +kernel
theorem dX9_isSign_28 : decode cX9_isSign 28 = .ok (.laload, 1) := by decide +kernel
theorem dX9_isSign_29 : decode cX9_isSign 29 = .ok (.iload_n 1, 1) := by decide +kernel
theorem dX9_isSign_30 : decode cX9_isSign 30 = .ok (.i2l, 1) := by decide +kernel
theorem dX9_isSign_31 : decode cX9_isSign 31 = .ok (.lcmp, 1) := by decide +kernel
theorem dX9_isSign_32 : decode cX9_isSign 32 = .ok (.ifCond .ne 7, 3) := by decide +kernel
theorem dX9_isSign_35 : decode cX9_isSign 35 = .ok (.iconst 1, 1) := by decide +kernel
theorem dX9_isSign_36 : decode cX9_isSign 36 = .ok (.goto 4, 3) := by decide +kernel
theorem dX9_isSign_39 : decode cX9_isSign 39 = .ok (.iconst 0, 1) := by decide +kernel
theorem dX9_isSign_40 : decode cX9_isSign 40 = .ok (.ireturn, 1) := by decide +kernel
theorem dX9_isWord_0 : decode cX9_isWord 0 = .ok (.aload_n 0, 1) := by decide +kernel
theorem dX9_isWord_1 : decode cX9_isWord 1 = .ok (.getfield 186, 3) := by decide +kernel
theorem dX9_isWord_4 : decode cX9_isWord 4 = .ok (.ifCond .ne 39, 3) := by decide +kernel
theorem dX9_isWord_7 : decode cX9_isWord 7 = .ok (.aload_n 0, 1) := by decide +kernel
theorem dX9_isWord_8 : decode cX9_isWord 8 = .ok (.getfield 24, 3) := by decide +kernel
theorem dX9_isWord_11 : decode cX9_isWord 11 = .ok (.aload_n 0, 1) := by decide +kernel
theorem dX9_isWord_12 : decode cX9_isWord 12 = .ok (.getfield 183, 3) := by decide +kernel
theorem dX9_isWord_15 : decode cX9_isWord 15 = .ok (.iaload, 1) := by decide +kernel
theorem dX9_isWord_16 : decode cX9_isWord 16 = .ok (.iconst 1, 1) := by decide +kernel
theorem dX9_isWord_17 : decode cX9_isWord 17 = .ok (.if_icmp .ne 26, 3) := by decide +kernel
theorem dX9_isWord_20 : decode cX9_isWord 20 = .ok (.aload_n 0, 1) := by decide +kernel
theorem dX9_isWord_21 : decode cX9_isWord 21 = .ok (.getfield 30, 3) := by decide +kernel
theorem dX9_isWord_24 : decode cX9_isWord 24 = .ok (.aload_n 0, 1) := by decide +kernel
theorem dX9_isWord_25 : decode cX9_isWord 25 = .ok (.getfield 183, 3) := by decide +kernel
theorem dX9_isWord_28 : decode cX9_isWord 28 = .ok (.laload, 1) := by decide +kernel
theorem dX9_isWord_29 : decode cX9_isWord 29 = .ok (.aload_n 0, 1) := by decide +kernel
theorem dX9_isWord_30 : decode cX9_isWord 30 = .ok (.getfield 52, 3) := by decide +kernel
theorem dX9_isWord_33 : decode cX9_isWord 33 = .ok (.iload_n 1, 1) := by decide +kernel
theorem dX9_isWord_34 : decode cX9_isWord 34 = .ok (.laload, 1) := by decide +kernel
theorem dX9_isWord_35 : decode cX9_isWord 35 = .ok (.lcmp, 1) := by decide +kernel
theorem dX9_isWord_36 : decode cX9_isWord 36 = .ok (.ifCond .ne 7, 3) := by decide +kernel
theorem dX9_isWord_39 : decode cX9_isWord 39 = .ok (.iconst 1, 1) := by decide +kernel
theorem dX9_isWord_40 : decode cX9_isWord 40 = .ok (.goto 4, 3) := by decide +kernel
theorem dX9_isWord_43 : decode cX9_isWord 43 = .ok (.iconst 0, 1) := by decide +kernel
theorem dX9_isWord_44 : decode cX9_isWord 44 = .ok (.ireturn, 1) := by decide +kernel
set_option maxRecDepth 20000 in
theorem ggX9_takeSign_X9_isSign : GoodIn wsX9_takeSign wsX9_isSign := goodIn_r _ [6, 7, 8, 1, 9, 15, 16, 17, 18, 19, 20, 21, 22, 23, 24, 25, 26, 27, 28, 29, 30, 31, 32, 33, 34, 35, 36, 37, 38, 39, 40, 41, 42, 43, 44, 45, 46, 47, 48, 49, 50, 51, 52, 53, 54, 55, 56, 57, 58, 59, 60, 61, 62, 63, 64, 65, 66, 67, 68, 69, 70, 71, 72, 73, 74, 75, 76] (by decide +kernel) (by decide +kernel)
set_option maxRecDepth 20000 in
theorem gX9_takeSign_X9_isSign : GoodIn wsX9_takeSign (wsV RX9 189 RX9 yX9_isSign wsX9_isSign) := goodIn_app (goodIn_of _ (by decide +kernel)) ggX9_takeSign_X9_isSign
set_option maxRecDepth 20000 in
theorem ggX9_takeSign_X9_wrong : GoodIn wsX9_takeSign wsX9_wrong := goodIn_r _ [13, 7, 14, 1, 15, 16, 17, 18, 19, 20, 21, 22, 23, 24, 25, 26, 27, 28, 29, 30, 31, 32, 33, 34, 35, 36, 37, 38, 39, 40, 41, 42, 43, 44, 45, 46, 47, 48, 49, 50, 51, 52, 53, 54, 55, 56, 57, 58, 59, 60, 61, 62, 63, 64, 65, 66, 67, 68, 69, 70, 71, 72, 73, 74, 75, 76] (by decide +kernel) (by decide +kernel)
set_option maxRecDepth 20000 in
theorem gX9_takeSign_X9_wrong : GoodIn wsX9_takeSign (wsV RX9 192 RX9 yX9_wrong wsX9_wrong) := goodIn_app (goodIn_of _ (by decide +kernel)) ggX9_takeSign_X9_wrong
theorem dX9_takeSign_0 : decode cX9_takeSign 0 = .ok (.aload_n 0, 1) := by decide +kernel
theorem dX9_takeSign_1 : decode cX9_takeSign 1 = .ok (.iload_n 1, 1) := by decide +kernel
theorem dX9_takeSign_2 : decode cX9_takeSign 2 = .ok (.invokevirtual 189, 3) := by decide +kernel
theorem dX9_takeSign_5 : decode cX9_takeSign 5 = .ok (.ifCond .eq 16, 3) := by decide +kernel
theorem dX9_takeSign_8 : decode cX9_takeSign 8 = .ok (.aload_n 0, 1) := by decide +kernel
theorem dX9_takeSign_9 : decode cX9_takeSign 9 = .ok (.dup, 1) := by decide +kernel
theorem dX9_takeSign_10 : decode cX9_takeSign 10 = .ok (.getfield 183, 3) := by decide +kernel
theorem dX9_takeSign_13 : decode cX9_takeSign 13 = .ok (.iconst 1, 1) := by decide +kernel
theorem dX9_takeSign_14 : decode cX9_takeSign 14 = .ok (.iadd, 1) := by decide +kernel
theorem dX9_takeSign_15 : decode cX9_takeSign 15 = .ok (.putfield 183, 3) := by decide +kernel
theorem dX9_takeSign_18 : decode cX9_takeSign 18 = .ok (.goto 8, 3) := by decide +kernel
theorem dX9_takeSign_21 : decode cX9_takeSign 21 = .ok (.aload_n 0, 1) := by decide +kernel
theorem dX9_takeSign_22 : decode cX9_takeSign 22 = .ok (.iconst 1, 1) := by decide +kernel
theorem dX9_takeSign_23 : decode cX9_takeSign 23 = .ok (.invokevirtual 192, 3) := by decide +kernel
theorem dX9_takeSign_26 : decode cX9_takeSign 26 = .ok (.return_, 1) := by decide +kernel
set_option maxRecDepth 20000 in
theorem ggX9_hasSign_X9_isSign : GoodIn wsX9_hasSign wsX9_isSign := goodIn_r _ [6, 7, 8, 1, 9, 10, 11, 12, 13, 14, 15, 16, 17, 18, 19, 20, 21, 22, 23, 24, 25, 26, 27, 28, 29, 30, 31, 32, 33, 34, 35, 36, 37, 38, 39, 40, 41, 42, 43, 44, 45, 46, 47, 48, 49, 50, 51, 52, 53, 54, 55, 56, 57, 58, 59, 60, 61, 62, 63, 64, 65, 66, 67, 68, 69, 70, 71] (by decide +kernel) (by decide +kernel)
set_option maxRecDepth 20000 in
theorem gX9_hasSign_X9_isSign : GoodIn wsX9_hasSign (wsV RX9 189 RX9 yX9_isSign wsX9_isSign) := goodIn_app (goodIn_of _ (by decide +kernel)) ggX9_hasSign_X9_isSign
theorem dX9_hasSign_0 : decode cX9_hasSign 0 = .ok (.aload_n 0, 1) := by decide +kernel
theorem dX9_hasSign_1 : decode cX9_hasSign 1 = .ok (.iload_n 1, 1) := by decide +kernel
theorem dX9_hasSign_2 : decode cX9_hasSign 2 = .ok (.invokevirtual 189, 3) := by decide +kernel
theorem dX9_hasSign_5 : decode cX9_hasSign 5 = .ok (.istore_n 2, 1) := by decide +kernel
theorem dX9_hasSign_6 : decode cX9_hasSign 6 = .ok (.aload_n 0, 1) := by decide +kernel
theorem dX9_hasSign_7 : decode cX9_hasSign 7 = .ok (.dup, 1) := by decide +kernel
theorem dX9_hasSign_8 : decode cX9_hasSign 8 = .ok (.getfield 183, 3) := by decide +kernel
theorem dX9_hasSign_11 : decode cX9_hasSign 11 = .ok (.iload_n 2, 1) := by decide +kernel
theorem dX9_hasSign_12 : decode cX9_hasSign 12 = .ok (.ifCond .eq 7, 3) := by decide +kernel
theorem dX9_hasSign_15 : decode cX9_hasSign 15 = .ok (.iconst 1, 1) := by decide +kernel
theorem dX9_hasSign_16 : decode cX9_hasSign 16 = .ok (.goto 4, 3) := by decide +kernel
theorem dX9_hasSign_19 : decode cX9_hasSign 19 = .ok (.iconst 0, 1) := by decide +kernel
theorem dX9_hasSign_20 : decode cX9_hasSign 20 = .ok (.iadd, 1) := by decide +kernel
theorem dX9_hasSign_21 : decode cX9_hasSign 21 = .ok (.putfield 183, 3) := by decide +kernel
theorem dX9_hasSign_24 : decode cX9_hasSign 24 = .ok (.iload_n 2, 1) := by decide +kernel
theorem dX9_hasSign_25 : decode cX9_hasSign 25 = .ok (.ireturn, 1) := by decide +kernel
set_option maxRecDepth 20000 in
theorem ggX9_hasWord_X9_isWord : GoodIn wsX9_hasWord wsX9_isWord := goodIn_r _ [6, 7, 8, 1, 9, 10, 11, 12, 13, 14, 15, 16, 17, 18, 19, 20, 21, 22, 23, 24, 25, 26, 27, 28, 29, 30, 31, 32, 33, 34, 35, 36, 37, 38, 39, 40, 41, 42, 43, 44, 45, 46, 47, 48, 49, 50, 51, 52, 53, 54, 55, 56, 57, 58, 59, 60, 61, 62, 63, 64, 65, 66, 67, 68, 69, 70, 71, 72] (by decide +kernel) (by decide +kernel)
set_option maxRecDepth 20000 in
theorem gX9_hasWord_X9_isWord : GoodIn wsX9_hasWord (wsV RX9 196 RX9 yX9_isWord wsX9_isWord) := goodIn_app (goodIn_of _ (by decide +kernel)) ggX9_hasWord_X9_isWord
theorem dX9_hasWord_0 : decode cX9_hasWord 0 = .ok (.aload_n 0, 1) := by decide +kernel
theorem dX9_hasWord_1 : decode cX9_hasWord 1 = .ok (.iload_n 1, 1) := by decide +kernel
theorem dX9_hasWord_2 : decode cX9_hasWord 2 = .ok (.invokevirtual 196, 3) := by decide +kernel
theorem dX9_hasWord_5 : decode cX9_hasWord 5 = .ok (.istore_n 2, 1) := by decide +kernel
theorem dX9_hasWord_6 : decode cX9_hasWord 6 = .ok (.aload_n 0, 1) := by decide +kernel
theorem dX9_hasWord_7 : decode cX9_hasWord 7 = .ok (.dup, 1) := by decide +kernel
theorem dX9_hasWord_8 : decode cX9_hasWord 8 = .ok (.getfield 183, 3) := by decide +kernel
theorem dX9_hasWord_11 : decode cX9_hasWord 11 = .ok (.iload_n 2, 1) := by decide +kernel
theorem dX9_hasWord_12 : decode cX9_hasWord 12 = .ok (.ifCond .eq 7, 3) := by decide +kernel
theorem dX9_hasWord_15 : decode cX9_hasWord 15 = .ok (.iconst 1, 1) := by decide +kernel
theorem dX9_hasWord_16 : decode cX9_hasWord 16 = .ok (.goto 4, 3) := by decide +kernel
theorem dX9_hasWord_19 : decode cX9_hasWord 19 = .ok (.iconst 0, 1) := by decide +kernel
theorem dX9_hasWord_20 : decode cX9_hasWord 20 = .ok (.iadd, 1) := by decide +kernel
theorem dX9_hasWord_21 : decode cX9_hasWord 21 = .ok (.putfield 183, 3) := by decide +kernel
theorem dX9_hasWord_24 : decode cX9_hasWord 24 = .ok (.iload_n 2, 1) := by decide +kernel
theorem dX9_hasWord_25 : decode cX9_hasWord 25 = .ok (.ireturn, 1) := by decide +kernel
set_option maxRecDepth 20000 in
theorem ggX9_takeWord_X9_hasWord : GoodIn wsX9_takeWord wsX9_hasWord := goodIn_r _ [5, 6, 7, 8, 9, 4, 10, 11, 12, 13, 14, 20, 21, 22, 23, 24, 25, 26, 27, 28, 29, 30, 31, 32, 33, 34, 35, 36, 37, 38, 39, 40, 41, 42, 43, 44, 45, 46, 47, 48, 49, 50, 51, 52, 53, 54, 55, 56, 57, 58, 59, 60, 61, 62, 63, 64, 65, 66, 67, 68, 69, 70, 71, 72, 73, 74, 75, 76, 77, 78, 79, 80, 81] (by decide +kernel) (by decide +kernel)
set_option maxRecDepth 20000 in
theorem gX9_takeWord_X9_hasWord : GoodIn wsX9_takeWord (wsV RX9 199 RX9 yX9_hasWord wsX9_hasWord) := goodIn_app (goodIn_of _ (by decide +kernel)) ggX9_takeWord_X9_hasWord
set_option maxRecDepth 20000 in
theorem ggX9_takeWord_X9_wrong : GoodIn wsX9_takeWord wsX9_wrong := goodIn_r _ [18, 11, 19, 6, 20, 21, 22, 23, 24, 25, 26, 27, 28, 29, 30, 31, 32, 33, 34, 35, 36, 37, 38, 39, 40, 41, 42, 43, 44, 45, 46, 47, 48, 49, 50, 51, 52, 53, 54, 55, 56, 57, 58, 59, 60, 61, 62, 63, 64, 65, 66, 67, 68, 69, 70, 71, 72, 73, 74, 75, 76, 77, 78, 79, 80, 81] (by decide +kernel) (by decide +kernel)
set_option maxRecDepth 20000 in
theorem gX9_takeWord_X9_wrong : GoodIn wsX9_takeWord (wsV RX9 192 RX9 yX9_wrong wsX9_wrong) := goodIn_app (goodIn_of _ (by decide +kernel)) ggX9_takeWord_X9_wrong
theorem dX9_takeWord_0 : decode cX9_takeWord 0 = .ok (.aload_n 0, 1) := by decide +kernel
theorem dX9_takeWord_1 : decode cX9_takeWord 1 = .ok (.iload_n 1, 1) := by decide +kernel
theorem dX9_takeWord_2 : decode cX9_takeWord 2 = .ok (.invokevirtual 199, 3) := by decide +kernel
theorem dX9_takeWord_5 : decode cX9_takeWord 5 = .ok (.ifCond .ne 8, 3) := by decide +kernel
theorem dX9_takeWord_8 : decode cX9_takeWord 8 = .ok (.aload_n 0, 1) := by decide +kernel
theorem dX9_takeWord_9 : decode cX9_takeWord 9 = .ok (.iconst 1, 1) := by decide +kernel
theorem dX9_takeWord_10 : decode cX9_takeWord 10 = .ok (.invokevirtual 192, 3) := by decide +kernel
theorem dX9_takeWord_13 : decode cX9_takeWord 13 = .ok (.return_, 1) := by decide +kernel
theorem dX9_emit_0 : decode cX9_emit 0 = .ok (.aload_n 0, 1) := by decide +kernel
theorem dX9_emit_1 : decode cX9_emit 1 = .ok (.getfield 64, 3) := by decide +kernel
theorem dX9_emit_4 : decode cX9_emit 4 = .ok (.sipush 660, 3) := by decide +kernel
theorem dX9_emit_7 : decode cX9_emit 7 = .ok (.aload_n 0, 1) := by decide +kernel
theorem dX9_emit_8 : decode cX9_emit 8 = .ok (.getfield 202, 3) := by decide +kernel
theorem dX9_emit_11 : decode cX9_emit 11 = .ok (.imul, 1) := by decide +kernel
theorem dX9_emit_12 : decode cX9_emit 12 = .ok (.aload_n 0, 1) := by decide +kernel
theorem dX9_emit_13 : decode cX9_emit 13 = .ok (.getfield 205, 3) := by decide +kernel
theorem dX9_emit_16 : decode cX9_emit 16 = .ok (.iadd, 1) := by decide +kernel
theorem dX9_emit_17 : decode cX9_emit 17 = .ok (.iload_n 1, 1) := by decide +kernel
theorem dX9_emit_18 : decode cX9_emit 18 = .ok (.iastore, 1) := by decide +kernel
theorem dX9_emit_19 : decode cX9_emit 19 = .ok (.aload_n 0, 1) := by decide +kernel
theorem dX9_emit_20 : decode cX9_emit 20 = .ok (.getfield 67, 3) := by decide +kernel
theorem dX9_emit_23 : decode cX9_emit 23 = .ok (.sipush 660, 3) := by decide +kernel
theorem dX9_emit_26 : decode cX9_emit 26 = .ok (.aload_n 0, 1) := by decide +kernel
theorem dX9_emit_27 : decode cX9_emit 27 = .ok (.getfield 202, 3) := by decide +kernel
theorem dX9_emit_30 : decode cX9_emit 30 = .ok (.imul, 1) := by decide +kernel
theorem dX9_emit_31 : decode cX9_emit 31 = .ok (.aload_n 0, 1) := by decide +kernel
theorem dX9_emit_32 : decode cX9_emit 32 = .ok (.getfield 205, 3) := by decide +kernel
theorem dX9_emit_35 : decode cX9_emit 35 = .ok (.iadd, 1) := by decide +kernel
theorem dX9_emit_36 : decode cX9_emit 36 = .ok (.iload_n 2, 1) := by decide +kernel
theorem dX9_emit_37 : decode cX9_emit 37 = .ok (.iastore, 1) := by decide +kernel
theorem dX9_emit_38 : decode cX9_emit 38 = .ok (.aload_n 0, 1) := by decide +kernel
theorem dX9_emit_39 : decode cX9_emit 39 = .ok (.dup, 1) := by decide +kernel
theorem dX9_emit_40 : decode cX9_emit 40 = .ok (.getfield 205, 3) := by decide +kernel
theorem dX9_emit_43 : decode cX9_emit 43 = .ok (.iconst 1, 1) := by decide +kernel
theorem dX9_emit_44 : decode cX9_emit 44 = .ok (.iadd, 1) := by decide +kernel
theorem dX9_emit_45 : decode cX9_emit 45 = .ok (.putfield 205, 3) := by decide +kernel
theorem dX9_emit_48 : decode cX9_emit 48 = .ok (.return_, 1) := by decide +kernel
set_option maxRecDepth 20000 in
theorem ggX9_text_X9_cutAll : GoodIn wsX9_text wsX9_cutAll := goodIn_r _ [13, 14, 15, 16, 17, 18, 7, 19, 20, 21, 8, 6, 22, 23, 12, 24, 25, 26, 27, 28, 29, 30, 31, 32, 33, 96, 97, 98, 99, 100, 101, 102, 103, 104, 105, 106, 107, 108, 109, 110, 111, 112, 113, 114, 115, 116, 117, 118, 119, 120, 121, 122, 123, 124, 125, 126, 127, 128, 129, 130, 131, 132, 133, 134, 135, 136, 137, 138, 139, 140, 141, 142, 143, 144, 145, 146, 147, 148, 149, 150, 151, 152, 153, 154, 155, 156, 157] (by decide +kernel) (by decide +kernel)
set_option maxRecDepth 20000 in
theorem gX9_text_X9_cutAll : GoodIn wsX9_text (wsV RX9 208 RX9 yX9_cutAll wsX9_cutAll) := goodIn_app (goodIn_of _ (by decide +kernel)) ggX9_text_X9_cutAll
set_option maxRecDepth 20000 in
theorem ggX9_text_X9_line : GoodIn wsX9_text wsX9_line := goodIn_r _ [37, 4, 3, 6, 8, 7, 21, 38, 39, 40, 5, 41, 42, 43, 44, 12, 45, 46, 47, 48, 49, 50, 17, 51, 52, 53, 54, 55, 56, 57, 58, 59, 60, 61, 62, 63, 64, 65, 66, 67, 68, 69, 70, 71, 72, 73, 74, 75, 76, 77, 78, 79, 80, 81, 82, 83, 84, 85, 86, 87, 88, 89, 90, 91, 92, 93, 94, 95, 96, 97, 98, 99, 100, 101, 102, 103, 104, 105, 106, 107, 108, 109, 110, 111, 112, 113, 114, 115, 116, 117, 118, 119, 120, 121, 122, 123, 124, 125, 126, 127, 128, 129, 130, 131, 132, 133, 134, 135, 136, 137, 138, 139, 140, 141, 142, 143, 144, 145, 146, 147, 148, 149, 150, 151, 152, 153, 154, 155, 156, 157] (by decide +kernel) (by decide +kernel)
set_option maxRecDepth 20000 in
theorem gX9_text_X9_line : GoodIn wsX9_text (wsV RX9 214 RX9 yX9_line wsX9_line) := goodIn_app (goodIn_of _ (by decide +kernel)) ggX9_text_X9_line
theorem dX9_text_0 : decode cX9_text 0 = .ok (.aload_n 0, 1) := by decide +kernel
theorem dX9_text_1 : decode cX9_text 1 = .ok (.iconst 0, 1) := by decide +kernel
theorem dX9_text_2 : decode cX9_text 2 = .ok (.putfield 1, 3) := by decide +kernel
theorem dX9_text_5 : decode cX9_text 5 = .ok (.aload_n 0, 1) := by decide +kernel
theorem dX9_text_6 : decode cX9_text 6 = .ok (.invokevirtual 208, 3) := by decide +kernel
theorem dX9_text_9 : decode cX9_text 9 = .ok (.aload_n 0, 1) := by decide +kernel
theorem dX9_text_10 : decode cX9_text 10 = .ok (.iconst 1, 1) := by decide +kernel
theorem dX9_text_11 : decode cX9_text 11 = .ok (.aload_n 0, 1) := by decide +kernel
theorem dX9_text_12 : decode cX9_text 12 = .ok (.getfield 211, 3) := by decide +kernel
theorem dX9_text_15 : decode cX9_text 15 = .ok (.isub, 1) := by decide +kernel
theorem dX9_text_16 : decode cX9_text 16 = .ok (.putfield 202, 3) := by decide +kernel
theorem dX9_text_19 : decode cX9_text 19 = .ok (.aload_n 0, 1) := by decide +kernel
theorem dX9_text_20 : decode cX9_text 20 = .ok (.getfield 55, 3) := by decide +kernel
theorem dX9_text_23 : decode cX9_text 23 = .ok (.aload_n 0, 1) := by decide +kernel
theorem dX9_text_24 : decode cX9_text 24 = .ok (.getfield 202, 3) := by decide +kernel
theorem dX9_text_27 : decode cX9_text 27 = .ok (.iconst 0, 1) := by decide +kernel
theorem dX9_text_28 : decode cX9_text 28 = .ok (.iastore, 1) := by decide +kernel
theorem dX9_text_29 : decode cX9_text 29 = .ok (.aload_n 0, 1) := by decide +kernel
theorem dX9_text_30 : decode cX9_text 30 = .ok (.iconst 0, 1) := by decide +kernel
theorem dX9_text_31 : decode cX9_text 31 = .ok (.putfield 205, 3) := by decide +kernel
theorem dX9_text_34 : decode cX9_text 34 = .ok (.aload_n 0, 1) := by decide +kernel
theorem dX9_text_35 : decode cX9_text 35 = .ok (.getfield 186, 3) := by decide +kernel
theorem dX9_text_38 : decode cX9_text 38 = .ok (.ifCond .ne 22, 3) := by decide +kernel
theorem dX9_text_41 : decode cX9_text 41 = .ok (.aload_n 0, 1) := by decide +kernel
theorem dX9_text_42 : decode cX9_text 42 = .ok (.getfield 24, 3) := by decide +kernel
theorem dX9_text_45 : decode cX9_text 45 = .ok (.aload_n 0, 1) := by decide +kernel
theorem dX9_text_46 : decode cX9_text 46 = .ok (.getfield 183, 3) := by decide +kernel
theorem dX9_text_49 : decode cX9_text 49 = .ok (.iaload, 1) := by decide +kernel
theorem dX9_text_50 : decode cX9_text 50 = .ok (.ifCond .eq 10, 3) := by decide +kernel
theorem dX9_text_53 : decode cX9_text 53 = .ok (.aload_n 0, 1) := by decide +kernel
theorem dX9_text_54 : decode cX9_text 54 = .ok (.invokevirtual 214, 3) := by decide +kernel
theorem dX9_text_57 : decode cX9_text 57 = .ok (.goto (-23), 3) := by decide +kernel
theorem dX9_text_60 : decode cX9_text 60 = .ok (.aload_n 0, 1) := by decide +kernel
theorem dX9_text_61 : decode cX9_text 61 = .ok (.getfield 186, 3) := by decide +kernel
theorem dX9_text_64 : decode cX9_text 64 = .ok (.ifCond .ne 11, 3) := by decide +kernel
theorem dX9_text_67 : decode cX9_text 67 = .ok (.aload_n 0, 1) := by decide +kernel
theorem dX9_text_68 : decode cX9_text 68 = .ok (.aload_n 0, 1) := by decide +kernel
theorem dX9_text_69 : decode cX9_text 69 = .ok (.getfield 202, 3) := by decide +kernel
theorem dX9_text_72 : decode cX9_text 72 = .ok (.putfield 211, 3) := by decide +kernel
theorem dX9_text_75 : decode cX9_text 75 = .ok (.aload_n 0, 1) := by decide +kernel
theorem dX9_text_76 : decode cX9_text 76 = .ok (.getfield 186, 3) := by decide +kernel
theorem dX9_text_79 : decode cX9_text 79 = .ok (.ireturn, 1) := by decide +kernel
set_option maxRecDepth 20000 in
theorem ggX9_line_X9_isWord : GoodIn wsX9_line wsX9_isWord := goodIn_r _ [16, 3, 5, 4, 6, 17, 68, 69, 70, 71, 72, 73, 74, 75, 76, 77, 78, 79, 80, 81, 82, 83, 84, 85, 86, 87, 88, 89, 90, 91, 92, 93, 94, 95, 96, 97, 98, 99, 100, 101, 102, 103, 104, 105, 106, 107, 108, 109, 110, 111, 112, 113, 114, 115, 116, 117, 118, 119, 120, 121, 122, 123, 124, 125, 126, 127, 128, 129] (by decide +kernel) (by decide +kernel)
set_option maxRecDepth 20000 in
theorem gX9_line_X9_isWord : GoodIn wsX9_line (wsV RX9 196 RX9 yX9_isWord wsX9_isWord) := goodIn_app (goodIn_of _ (by decide +kernel)) ggX9_line_X9_isWord
set_option maxRecDepth 20000 in
theorem ggX9_line_X9_wrong : GoodIn wsX9_line wsX9_wrong := goodIn_r _ [21, 3, 22, 4, 68, 69, 70, 71, 72, 73, 74, 75, 76, 77, 78, 79, 80, 81, 82, 83, 84, 85, 86, 87, 88, 89, 90, 91, 92, 93, 94, 95, 96, 97, 98, 99, 100, 101, 102, 103, 104, 105, 106, 107, 108, 109, 110, 111, 112, 113, 114, 115, 116, 117, 118, 119, 120, 121, 122, 123, 124, 125, 126, 127, 128, 129] (by decide +kernel) (by decide +kernel)
set_option maxRecDepth 20000 in
theorem gX9_line_X9_wrong : GoodIn wsX9_line (wsV RX9 192 RX9 yX9_wrong wsX9_wrong) := goodIn_app (goodIn_of _ (by decide +kernel)) ggX9_line_X9_wrong
set_option maxRecDepth 20000 in
theorem ggX9_line_X9_takeWord : GoodIn wsX9_line wsX9_takeWord := goodIn_r _ [26, 27, 28, 29, 15, 30, 4, 12, 13, 14, 16, 3, 5, 6, 17, 18, 19, 20, 21, 22, 68, 69, 70, 71, 72, 73, 74, 75, 76, 77, 78, 79, 80, 81, 82, 83, 84, 85, 86, 87, 88, 89, 90, 91, 92, 93, 94, 95, 96, 97, 98, 99, 100, 101, 102, 103, 104, 105, 106, 107, 108, 109, 110, 111, 112, 113, 114, 115, 116, 117, 118, 119, 120, 121, 122, 123, 124, 125, 126, 127, 128, 129] (by decide +kernel) (by decide +kernel)
set_option maxRecDepth 20000 in
theorem gX9_line_X9_takeWord : GoodIn wsX9_line (wsV RX9 219 RX9 yX9_takeWord wsX9_takeWord) := goodIn_app (goodIn_of _ (by decide +kernel)) ggX9_line_X9_takeWord
set_option maxRecDepth 20000 in
theorem ggX9_line_X9_opens : GoodIn wsX9_line wsX9_opens := goodIn_r _ [34, 35, 11, 36, 37, 68, 69, 70, 71, 72, 73, 74, 75, 76, 77, 78, 79, 80, 81, 82, 83, 84, 85, 86, 87, 88, 89, 90, 91, 92, 93, 94, 95, 96, 97, 98, 99, 100, 101, 102, 103, 104, 105, 106, 107, 108, 109, 110, 111, 112, 113, 114, 115, 116, 117, 118, 119, 120, 121, 122, 123, 124, 125, 126, 127, 128, 129] (by decide +kernel) (by decide +kernel)
set_option maxRecDepth 20000 in
theorem gX9_line_X9_opens : GoodIn wsX9_line (wsV RX9 225 RX9 yX9_opens wsX9_opens) := goodIn_app (goodIn_of _ (by decide +kernel)) ggX9_line_X9_opens
set_option maxRecDepth 20000 in
theorem ggX9_line_X9_part : GoodIn wsX9_line wsX9_part := goodIn_r _ [41, 3, 5, 4, 11, 6, 42, 43, 44, 15, 45, 12, 13, 14, 16, 17, 46, 47, 48, 49, 18, 19, 20, 21, 22, 50, 51, 52, 53, 31, 32, 33, 34, 35, 36, 37, 54, 55, 56, 57, 58, 2, 10, 59, 68, 69, 70, 71, 72, 73, 74, 75, 76, 77, 78, 79, 80, 81, 82, 83, 84, 85, 86, 87, 88, 89, 90, 91, 92, 93, 94, 95, 96, 97, 98, 99, 100, 101, 102, 103, 104, 105, 106, 107, 108, 109, 110, 111, 112, 113, 114, 115, 116, 117, 118, 119, 120, 121, 122, 123, 124, 125, 126, 127, 128, 129] (by decide +kernel) (by decide +kernel)
set_option maxRecDepth 20000 in
theorem gX9_line_X9_part : GoodIn wsX9_line (wsV RX9 228 RX9 yX9_part wsX9_part) := goodIn_app (goodIn_of _ (by decide +kernel)) ggX9_line_X9_part
set_option maxRecDepth 20000 in
theorem ggX9_line_X9_goesOnBehind : GoodIn wsX9_line wsX9_goesOnBehind := goodIn_r _ [63, 3, 35, 11, 4, 36, 37, 54, 55, 56, 15, 57, 58, 2, 10, 59, 46, 47, 48, 49, 5, 6, 12, 13, 14, 16, 17, 64, 65, 66, 67, 18, 19, 20, 21, 22, 68, 69, 70, 71, 72, 73, 74, 75, 76, 77, 78, 79, 80, 81, 82, 83, 84, 85, 86, 87, 88, 89, 90, 91, 92, 93, 94, 95, 96, 97, 98, 99, 100, 101, 102, 103, 104, 105, 106, 107, 108, 109, 110, 111, 112, 113, 114, 115, 116, 117, 118, 119, 120, 121, 122, 123, 124, 125, 126, 127, 128, 129] (by decide +kernel) (by decide +kernel)
set_option maxRecDepth 20000 in
theorem gX9_line_X9_goesOnBehind : GoodIn wsX9_line (wsV RX9 232 RX9 yX9_goesOnBehind wsX9_goesOnBehind) := goodIn_app (goodIn_of _ (by decide +kernel)) ggX9_line_X9_goesOnBehind
set_option maxRecDepth 20000 in
theorem ggX9_line_X9_emit : GoodIn wsX9_line wsX9_emit := goodIn_r _ [57, 58, 2, 10, 59, 68, 69, 70, 71, 72, 73, 74, 75, 76, 77, 78, 79, 80, 81, 82, 83, 84, 85, 86, 87, 88, 89, 90, 91, 92, 93, 94, 95, 96, 97, 98, 99, 100, 101, 102, 103, 104, 105, 106, 107, 108, 109, 110, 111, 112, 113, 114, 115, 116, 117, 118, 119, 120, 121, 122, 123, 124, 125, 126, 127, 128, 129] (by decide +kernel) (by decide +kernel)
set_option maxRecDepth 20000 in
theorem gX9_line_X9_emit : GoodIn wsX9_line (wsV RX9 235 RX9 yX9_emit wsX9_emit) := goodIn_app (goodIn_of _ (by decide +kernel)) ggX9_line_X9_emit
set_option maxRecDepth 20000 in
theorem ggX9_line_X9_takeSign : GoodIn wsX9_line wsX9_takeSign := goodIn_r _ [67, 4, 46, 47, 48, 15, 49, 3, 5, 6, 18, 19, 20, 21, 22, 68, 69, 70, 71, 72, 73, 74, 75, 76, 77, 78, 79, 80, 81, 82, 83, 84, 85, 86, 87, 88, 89, 90, 91, 92, 93, 94, 95, 96, 97, 98, 99, 100, 101, 102, 103, 104, 105, 106, 107, 108, 109, 110, 111, 112, 113, 114, 115, 116, 117, 118, 119, 120, 121, 122, 123, 124, 125, 126, 127, 128, 129] (by decide +kernel) (by decide +kernel)
set_option maxRecDepth 20000 in
theorem gX9_line_X9_takeSign : GoodIn wsX9_line (wsV RX9 239 RX9 yX9_takeSign wsX9_takeSign) := goodIn_app (goodIn_of _ (by decide +kernel)) ggX9_line_X9_takeSign
theorem dX9_line_0 : decode cX9_line 0 = .ok (.aload_n 0, 1) := by decide +kernel
theorem dX9_line_1 : decode cX9_line 1 = .ok (.iconst 0, 1) := by decide +kernel
theorem dX9_line_2 : decode cX9_line 2 = .ok (.invokevirtual 196, 3) := by decide +kernel
theorem dX9_line_5 : decode cX9_line 5 = .ok (.ifCond .ne 11, 3) := by decide +kernel
theorem dX9_line_8 : decode cX9_line 8 = .ok (.aload_n 0, 1) := by decide +kernel
theorem dX9_line_9 : decode cX9_line 9 = .ok (.iconst 1, 1) := by decide +kernel
theorem dX9_line_10 : decode cX9_line 10 = .ok (.invokevirtual 192, 3) := by decide +kernel
theorem dX9_line_13 : decode cX9_line 13 = .ok (.goto 22, 3) := by decide +kernel
theorem dX9_line_16 : decode cX9_line 16 = .ok (.aload_n 0, 1) := by decide +kernel
theorem dX9_line_17 : decode cX9_line 17 = .ok (.getfield 55, 3) := by decide +kernel
theorem dX9_line_20 : decode cX9_line 20 = .ok (.aload_n 0, 1) := by decide +kernel
theorem dX9_line_21 : decode cX9_line 21 = .ok (.getfield 202, 3) := by decide +kernel
theorem dX9_line_24 : decode cX9_line 24 = .ok (.iaload, 1) := by decide +kernel
theorem dX9_line_25 : decode cX9_line 25 = .ok (.bipush 16, 2) := by decide +kernel
theorem dX9_line_27 : decode cX9_line 27 = .ok (.if_icmp .ne 8, 3) := by decide +kernel
theorem dX9_line_30 : decode cX9_line 30 = .ok (.aload_n 0, 1) := by decide +kernel
theorem dX9_line_31 : decode cX9_line 31 = .ok (.iconst 5, 1) := by decide +kernel
theorem dX9_line_32 : decode cX9_line 32 = .ok (.invokevirtual 192, 3) := by decide +kernel
theorem dX9_line_35 : decode cX9_line 35 = .ok (.aload_n 0, 1) := by decide +kernel
theorem dX9_line_36 : decode cX9_line 36 = .ok (.getfield 186, 3) := by decide +kernel
theorem dX9_line_39 : decode cX9_line 39 = .ok (.ifCond .le 4, 3) := by decide +kernel
theorem dX9_line_42 : decode cX9_line 42 = .ok (.return_, 1) := by decide +kernel
theorem dX9_line_43 : decode cX9_line 43 = .ok (.aload_n 0, 1) := by decide +kernel
theorem dX9_line_44 : decode cX9_line 44 = .ok (.dup, 1) := by decide +kernel
theorem dX9_line_45 : decode cX9_line 45 = .ok (.getfield 183, 3) := by decide +kernel
theorem dX9_line_48 : decode cX9_line 48 = .ok (.iconst 1, 1) := by decide +kernel
theorem dX9_line_49 : decode cX9_line 49 = .ok (.iadd, 1) := by decide +kernel
theorem dX9_line_50 : decode cX9_line 50 = .ok (.putfield 183, 3) := by decide +kernel
theorem dX9_line_53 : decode cX9_line 53 = .ok (.bipush 16, 2) := by decide +kernel
theorem dX9_line_55 : decode cX9_line 55 = .ok (.aload_n 0, 1) := by decide +kernel
theorem dX9_line_56 : decode cX9_line 56 = .ok (.getfield 202, 3) := by decide +kernel
theorem dX9_line_59 : decode cX9_line 59 = .ok (.imul, 1) := by decide +kernel
theorem dX9_line_60 : decode cX9_line 60 = .ok (.aload_n 0, 1) := by decide +kernel
theorem dX9_line_61 : decode cX9_line 61 = .ok (.getfield 55, 3) := by decide +kernel
theorem dX9_line_64 : decode cX9_line 64 = .ok (.aload_n 0, 1) := by decide +kernel
theorem dX9_line_65 : decode cX9_line 65 = .ok (.getfield 202, 3) := by decide +kernel
theorem dX9_line_68 : decode cX9_line 68 = .ok (.iaload, 1) := by decide +kernel
theorem dX9_line_69 : decode cX9_line 69 = .ok (.iadd, 1) := by decide +kernel
theorem dX9_line_70 : decode cX9_line 70 = .ok (.istore_n 1, 1) := by decide +kernel
theorem dX9_line_71 : decode cX9_line 71 = .ok (.aload_n 0, 1) := by decide +kernel
theorem dX9_line_72 : decode cX9_line 72 = .ok (.getfield 24, 3) := by decide +kernel
theorem dX9_line_75 : decode cX9_line 75 = .ok (.aload_n 0, 1) := by decide +kernel
theorem dX9_line_76 : decode cX9_line 76 = .ok (.getfield 183, 3) := by decide +kernel
theorem dX9_line_79 : decode cX9_line 79 = .ok (.iaload, 1) := by decide +kernel
theorem dX9_line_80 : decode cX9_line 80 = .ok (.iconst 2, 1) := by decide +kernel
theorem dX9_line_81 : decode cX9_line 81 = .ok (.if_icmp .eq 11, 3) := by decide +kernel
theorem dX9_line_84 : decode cX9_line 84 = .ok (.aload_n 0, 1) := by decide +kernel
theorem dX9_line_85 : decode cX9_line 85 = .ok (.iconst 1, 1) := by decide +kernel
theorem dX9_line_86 : decode cX9_line 86 = .ok (.invokevirtual 192, 3) := by decide +kernel
theorem dX9_line_89 : decode cX9_line 89 = .ok (.goto 24, 3) := by decide +kernel
theorem dX9_line_92 : decode cX9_line 92 = .ok (.aload_n 0, 1) := by decide +kernel
theorem dX9_line_93 : decode cX9_line 93 = .ok (.getfield 30, 3) := by decide +kernel
theorem dX9_line_96 : decode cX9_line 96 = .ok (.aload_n 0, 1) := by decide +kernel
theorem dX9_line_97 : decode cX9_line 97 = .ok (.getfield 183, 3) := by decide +kernel
theorem dX9_line_100 : decode cX9_line 100 = .ok (.laload, 1) := by decide +kernel
theorem dX9_line_101 : decode cX9_line 101 = .ok (.ldc2_w 217, 3) := by decide +kernel
theorem dX9_line_104 : decode cX9_line 104 = .ok (.lcmp, 1) := by decide +kernel
theorem dX9_line_105 : decode cX9_line 105 = .ok (.ifCond .le 8, 3) := by decide +kernel
theorem dX9_line_108 : decode cX9_line 108 = .ok (.aload_n 0, 1) := by decide +kernel
theorem dX9_line_109 : decode cX9_line 109 = .ok (.iconst 4, 1) := by decide +kernel
theorem dX9_line_110 : decode cX9_line 110 = .ok (.invokevirtual 192, 3) := by decide +kernel
theorem dX9_line_113 : decode cX9_line 113 = .ok (.aload_n 0, 1) := by decide +kernel
theorem dX9_line_114 : decode cX9_line 114 = .ok (.getfield 58, 3) := by decide +kernel
theorem dX9_line_117 : decode cX9_line 117 = .ok (.iload_n 1, 1) := by decide +kernel
theorem dX9_line_118 : decode cX9_line 118 = .ok (.aload_n 0, 1) := by decide +kernel
theorem dX9_line_119 : decode cX9_line 119 = .ok (.getfield 186, 3) := by decide +kernel
theorem dX9_line_122 : decode cX9_line 122 = .ok (.ifCond .le 7, 3) := by decide +kernel
theorem dX9_line_125 : decode cX9_line 125 = .ok (.iconst 0, 1) := by decide +kernel
theorem dX9_line_126 : decode cX9_line 126 = .ok (.goto 13, 3) := by decide +kernel
theorem dX9_line_129 : decode cX9_line 129 = .ok (.aload_n 0, 1) := by decide +kernel
theorem dX9_line_130 : decode cX9_line 130 = .ok (.getfield 30, 3) := by decide +kernel
theorem dX9_line_133 : decode cX9_line 133 = .ok (.aload_n 0, 1) := by decide +kernel
theorem dX9_line_134 : decode cX9_line 134 = .ok (.getfield 183, 3) := by decide +kernel
theorem dX9_line_137 : decode cX9_line 137 = .ok (.laload, 1) := by decide +kernel
theorem dX9_line_138 : decode cX9_line 138 = .ok (.l2i, 1) := by decide +kernel
theorem dX9_line_139 : decode cX9_line 139 = .ok (.iastore, 1) := by decide +kernel
theorem dX9_line_140 : decode cX9_line 140 = .ok (.aload_n 0, 1) := by decide +kernel
theorem dX9_line_141 : decode cX9_line 141 = .ok (.dup, 1) := by decide +kernel
theorem dX9_line_142 : decode cX9_line 142 = .ok (.getfield 183, 3) := by decide +kernel
theorem dX9_line_145 : decode cX9_line 145 = .ok (.iconst 1, 1) := by decide +kernel
theorem dX9_line_146 : decode cX9_line 146 = .ok (.iadd, 1) := by decide +kernel
theorem dX9_line_147 : decode cX9_line 147 = .ok (.putfield 183, 3) := by decide +kernel
theorem dX9_line_150 : decode cX9_line 150 = .ok (.aload_n 0, 1) := by decide +kernel
theorem dX9_line_151 : decode cX9_line 151 = .ok (.iconst 1, 1) := by decide +kernel
theorem dX9_line_152 : decode cX9_line 152 = .ok (.invokevirtual 219, 3) := by decide +kernel
theorem dX9_line_155 : decode cX9_line 155 = .ok (.aload_n 0, 1) := by decide +kernel
theorem dX9_line_156 : decode cX9_line 156 = .ok (.getfield 61, 3) := by decide +kernel
theorem dX9_line_159 : decode cX9_line 159 = .ok (.iload_n 1, 1) := by decide +kernel
theorem dX9_line_160 : decode cX9_line 160 = .ok (.sipush 660, 3) := by decide +kernel
theorem dX9_line_163 : decode cX9_line 163 = .ok (.aload_n 0, 1) := by decide +kernel
theorem dX9_line_164 : decode cX9_line 164 = .ok (.getfield 202, 3) := by decide +kernel
theorem dX9_line_167 : decode cX9_line 167 = .ok (.imul, 1) := by decide +kernel
theorem dX9_line_168 : decode cX9_line 168 = .ok (.aload_n 0, 1) := by decide +kernel
theorem dX9_line_169 : decode cX9_line 169 = .ok (.getfield 205, 3) := by decide +kernel
theorem dX9_line_172 : decode cX9_line 172 = .ok (.iadd, 1) := by decide +kernel
theorem dX9_line_173 : decode cX9_line 173 = .ok (.iastore, 1) := by decide +kernel
theorem dX9_line_174 : decode cX9_line 174 = .ok (.aload_n 0, 1) := by decide +kernel
theorem dX9_line_175 : decode cX9_line 175 = .ok (.iconst 0, 1) := by decide +kernel
theorem dX9_line_176 : decode cX9_line 176 = .ok (.putfield 222, 3) := by decide +kernel
theorem dX9_line_179 : decode cX9_line 179 = .ok (.aload_n 0, 1) := by decide +kernel
theorem dX9_line_180 : decode cX9_line 180 = .ok (.invokevirtual 225, 3) := by decide +kernel
theorem dX9_line_183 : decode cX9_line 183 = .ok (.iconst 1, 1) := by decide +kernel
theorem dX9_line_184 : decode cX9_line 184 = .ok (.istore_n 2, 1) := by decide +kernel
theorem dX9_line_185 : decode cX9_line 185 = .ok (.iload_n 2, 1) := by decide +kernel
theorem dX9_line_186 : decode cX9_line 186 = .ok (.ifCond .eq 33, 3) := by decide +kernel
theorem dX9_line_189 : decode cX9_line 189 = .ok (.aload_n 0, 1) := by decide +kernel
theorem dX9_line_190 : decode cX9_line 190 = .ok (.getfield 186, 3) := by decide +kernel
theorem dX9_line_193 : decode cX9_line 193 = .ok (.ifCond .ne 26, 3) := by decide +kernel
theorem dX9_line_196 : decode cX9_line 196 = .ok (.aload_n 0, 1) := by decide +kernel
theorem dX9_line_197 : decode cX9_line 197 = .ok (.invokevirtual 228, 3) := by decide +kernel
theorem dX9_line_200 : decode cX9_line 200 = .ok (.ifCond .ne 10, 3) := by decide +kernel
theorem dX9_line_203 : decode cX9_line 203 = .ok (.aload_n 0, 1) := by decide +kernel
theorem dX9_line_204 : decode cX9_line 204 = .ok (.invokevirtual 232, 3) := by decide +kernel
theorem dX9_line_207 : decode cX9_line 207 = .ok (.ifCond .eq 7, 3) := by decide +kernel
theorem dX9_line_210 : decode cX9_line 210 = .ok (.iconst 1, 1) := by decide +kernel
theorem dX9_line_211 : decode cX9_line 211 = .ok (.goto 4, 3) := by decide +kernel
theorem dX9_line_214 : decode cX9_line 214 = .ok (.iconst 0, 1) := by decide +kernel
theorem dX9_line_215 : decode cX9_line 215 = .ok (.istore_n 2, 1) := by decide +kernel
theorem dX9_line_216 : decode cX9_line 216 = .ok (.goto (-31), 3) := by decide +kernel
theorem dX9_line_219 : decode cX9_line 219 = .ok (.aload_n 0, 1) := by decide +kernel
theorem dX9_line_220 : decode cX9_line 220 = .ok (.iconst 0, 1) := by decide +kernel
theorem dX9_line_221 : decode cX9_line 221 = .ok (.iconst 0, 1) := by decide +kernel
theorem dX9_line_222 : decode cX9_line 222 = .ok (.invokevirtual 235, 3) := by decide +kernel
theorem dX9_line_225 : decode cX9_line 225 = .ok (.aload_n 0, 1) := by decide +kernel
theorem dX9_line_226 : decode cX9_line 226 = .ok (.bipush 59, 2) := by decide +kernel
theorem dX9_line_228 : decode cX9_line 228 = .ok (.invokevirtual 239, 3) := by decide +kernel
theorem dX9_line_231 : decode cX9_line 231 = .ok (.aload_n 0, 1) := by decide +kernel
theorem dX9_line_232 : decode cX9_line 232 = .ok (.getfield 55, 3) := by decide +kernel
theorem dX9_line_235 : decode cX9_line 235 = .ok (.aload_n 0, 1) := by decide +kernel
theorem dX9_line_236 : decode cX9_line 236 = .ok (.getfield 202, 3) := by decide +kernel
theorem dX9_line_239 : decode cX9_line 239 = .ok (.dup2, 1) := by decide +kernel
theorem dX9_line_240 : decode cX9_line 240 = .ok (.iaload, 1) := by decide +kernel
theorem dX9_line_241 : decode cX9_line 241 = .ok (.iconst 1, 1) := by decide +kernel
theorem dX9_line_242 : decode cX9_line 242 = .ok (.iadd, 1) := by decide +kernel
theorem dX9_line_243 : decode cX9_line 243 = .ok (.iastore, 1) := by decide +kernel
theorem dX9_line_244 : decode cX9_line 244 = .ok (.return_, 1) := by decide +kernel
theorem dX9_opens_0 : decode cX9_opens 0 = .ok (.aload_n 0, 1) := by decide +kernel
theorem dX9_opens_1 : decode cX9_opens 1 = .ok (.getfield 70, 3) := by decide +kernel
theorem dX9_opens_4 : decode cX9_opens 4 = .ok (.aload_n 0, 1) := by decide +kernel
theorem dX9_opens_5 : decode cX9_opens 5 = .ok (.getfield 222, 3) := by decide +kernel
theorem dX9_opens_8 : decode cX9_opens 8 = .ok (.iconst 0, 1) := by decide +kernel
theorem dX9_opens_9 : decode cX9_opens 9 = .ok (.iastore, 1) := by decide +kernel
theorem dX9_opens_10 : decode cX9_opens 10 = .ok (.aload_n 0, 1) := by decide +kernel
theorem dX9_opens_11 : decode cX9_opens 11 = .ok (.getfield 73, 3) := by decide +kernel
theorem dX9_opens_14 : decode cX9_opens 14 = .ok (.aload_n 0, 1) := by decide +kernel
theorem dX9_opens_15 : decode cX9_opens 15 = .ok (.getfield 222, 3) := by decide +kernel
theorem dX9_opens_18 : decode cX9_opens 18 = .ok (.iconst 0, 1) := by decide +kernel
theorem dX9_opens_19 : decode cX9_opens 19 = .ok (.iastore, 1) := by decide +kernel
theorem dX9_opens_20 : decode cX9_opens 20 = .ok (.aload_n 0, 1) := by decide +kernel
theorem dX9_opens_21 : decode cX9_opens 21 = .ok (.getfield 76, 3) := by decide +kernel
theorem dX9_opens_24 : decode cX9_opens 24 = .ok (.aload_n 0, 1) := by decide +kernel
theorem dX9_opens_25 : decode cX9_opens 25 = .ok (.getfield 222, 3) := by decide +kernel
theorem dX9_opens_28 : decode cX9_opens 28 = .ok (.iconst 0, 1) := by decide +kernel
theorem dX9_opens_29 : decode cX9_opens 29 = .ok (.iastore, 1) := by decide +kernel
theorem dX9_opens_30 : decode cX9_opens 30 = .ok (.return_, 1) := by decide +kernel
set_option maxRecDepth 20000 in
theorem ggX9_partWord_X9_isWord : GoodIn wsX9_partWord wsX9_isWord := goodIn_r _ [5, 6, 7, 8, 9, 10, 11, 12, 13, 14, 15, 16, 17, 18, 19, 20, 21, 22, 23, 24, 25, 26, 27, 28, 29, 30, 31, 32, 33, 34, 35, 36, 37, 38, 39, 40, 41, 42, 43, 44, 45, 46, 47, 48, 49, 50, 51, 52, 53, 54, 55, 56, 57, 58, 59, 60, 61, 62, 63, 64, 65, 66, 67, 68, 69, 70, 71, 72] (by decide +kernel) (by decide +kernel)
set_option maxRecDepth 20000 in
theorem gX9_partWord_X9_isWord : GoodIn wsX9_partWord (wsV RX9 196 RX9 yX9_isWord wsX9_isWord) := goodIn_app (goodIn_of _ (by decide +kernel)) ggX9_partWord_X9_isWord
theorem dX9_partWord_0 : decode cX9_partWord 0 = .ok (.iconst 0, 1) := by decide +kernel
theorem dX9_partWord_1 : decode cX9_partWord 1 = .ok (.istore_n 1, 1) := by decide +kernel
theorem dX9_partWord_2 : decode cX9_partWord 2 = .ok (.iload_n 1, 1) := by decide +kernel
theorem dX9_partWord_3 : decode cX9_partWord 3 = .ok (.bipush 6, 2) := by decide +kernel
theorem dX9_partWord_5 : decode cX9_partWord 5 = .ok (.if_icmp .ge 21, 3) := by decide +kernel
theorem dX9_partWord_8 : decode cX9_partWord 8 = .ok (.aload_n 0, 1) := by decide +kernel
theorem dX9_partWord_9 : decode cX9_partWord 9 = .ok (.iconst 3, 1) := by decide +kernel
theorem dX9_partWord_10 : decode cX9_partWord 10 = .ok (.iload_n 1, 1) := by decide +kernel
theorem dX9_partWord_11 : decode cX9_partWord 11 = .ok (.iadd, 1) := by decide +kernel
theorem dX9_partWord_12 : decode cX9_partWord 12 = .ok (.invokevirtual 196, 3) := by decide +kernel
theorem dX9_partWord_15 : decode cX9_partWord 15 = .ok (.ifCond .eq 5, 3) := by decide +kernel
theorem dX9_partWord_18 : decode cX9_partWord 18 = .ok (.iload_n 1, 1) := by decide +kernel
theorem dX9_partWord_19 : decode cX9_partWord 19 = .ok (.ireturn, 1) := by decide +kernel
theorem dX9_partWord_20 : decode cX9_partWord 20 = .ok (.iinc 1 1, 3) := by decide +kernel
theorem dX9_partWord_23 : decode cX9_partWord 23 = .ok (.goto (-21), 3) := by decide +kernel
theorem dX9_partWord_26 : decode cX9_partWord 26 = .ok (.iconst (-1), 1) := by decide +kernel
theorem dX9_partWord_27 : decode cX9_partWord 27 = .ok (.ireturn, 1) := by decide +kernel
set_option maxRecDepth 20000 in
theorem ggX9_part_X9_partWord : GoodIn wsX9_part wsX9_partWord := goodIn_r _ [10, 11, 12, 13, 9, 14, 1, 2, 3, 5, 15, 44, 45, 46, 47, 48, 49, 50, 51, 52, 53, 54, 55, 56, 57, 58, 59, 60, 61, 62, 63, 64, 65, 66, 67, 68, 69, 70, 71, 72, 73, 74, 75, 76, 77, 78, 79, 80, 81, 82, 83, 84, 85, 86, 87, 88, 89, 90, 91, 92, 93, 94, 95, 96, 97, 98, 99, 100, 101, 102, 103, 104, 105] (by decide +kernel) (by decide +kernel)
set_option maxRecDepth 20000 in
theorem gX9_part_X9_partWord : GoodIn wsX9_part (wsV RX9 242 RX9 yX9_partWord wsX9_partWord) := goodIn_app (goodIn_of _ (by decide +kernel)) ggX9_part_X9_partWord
set_option maxRecDepth 20000 in
theorem ggX9_part_X9_isSign : GoodIn wsX9_part wsX9_isSign := goodIn_r _ [19, 1, 2, 3, 5, 44, 45, 46, 47, 48, 49, 50, 51, 52, 53, 54, 55, 56, 57, 58, 59, 60, 61, 62, 63, 64, 65, 66, 67, 68, 69, 70, 71, 72, 73, 74, 75, 76, 77, 78, 79, 80, 81, 82, 83, 84, 85, 86, 87, 88, 89, 90, 91, 92, 93, 94, 95, 96, 97, 98, 99, 100, 101, 102, 103, 104, 105] (by decide +kernel) (by decide +kernel)
set_option maxRecDepth 20000 in
theorem gX9_part_X9_isSign : GoodIn wsX9_part (wsV RX9 189 RX9 yX9_isSign wsX9_isSign) := goodIn_app (goodIn_of _ (by decide +kernel)) ggX9_part_X9_isSign
set_option maxRecDepth 20000 in
theorem ggX9_part_X9_wrong : GoodIn wsX9_part wsX9_wrong := goodIn_r _ [23, 1, 24, 3, 44, 45, 46, 47, 48, 49, 50, 51, 52, 53, 54, 55, 56, 57, 58, 59, 60, 61, 62, 63, 64, 65, 66, 67, 68, 69, 70, 71, 72, 73, 74, 75, 76, 77, 78, 79, 80, 81, 82, 83, 84, 85, 86, 87, 88, 89, 90, 91, 92, 93, 94, 95, 96, 97, 98, 99, 100, 101, 102, 103, 104, 105] (by decide +kernel) (by decide +kernel)
set_option maxRecDepth 20000 in
theorem gX9_part_X9_wrong : GoodIn wsX9_part (wsV RX9 192 RX9 yX9_wrong wsX9_wrong) := goodIn_app (goodIn_of _ (by decide +kernel)) ggX9_part_X9_wrong
set_option maxRecDepth 20000 in
theorem ggX9_part_X9_hasSign : GoodIn wsX9_part wsX9_hasSign := goodIn_r _ [28, 3, 16, 17, 18, 9, 19, 1, 2, 5, 44, 45, 46, 47, 48, 49, 50, 51, 52, 53, 54, 55, 56, 57, 58, 59, 60, 61, 62, 63, 64, 65, 66, 67, 68, 69, 70, 71, 72, 73, 74, 75, 76, 77, 78, 79, 80, 81, 82, 83, 84, 85, 86, 87, 88, 89, 90, 91, 92, 93, 94, 95, 96, 97, 98, 99, 100, 101, 102, 103, 104, 105] (by decide +kernel) (by decide +kernel)
set_option maxRecDepth 20000 in
theorem gX9_part_X9_hasSign : GoodIn wsX9_part (wsV RX9 246 RX9 yX9_hasSign wsX9_hasSign) := goodIn_app (goodIn_of _ (by decide +kernel)) ggX9_part_X9_hasSign
set_option maxRecDepth 20000 in
theorem ggX9_part_X9_opens : GoodIn wsX9_part wsX9_opens := goodIn_r _ [32, 33, 4, 34, 35, 44, 45, 46, 47, 48, 49, 50, 51, 52, 53, 54, 55, 56, 57, 58, 59, 60, 61, 62, 63, 64, 65, 66, 67, 68, 69, 70, 71, 72, 73, 74, 75, 76, 77, 78, 79, 80, 81, 82, 83, 84, 85, 86, 87, 88, 89, 90, 91, 92, 93, 94, 95, 96, 97, 98, 99, 100, 101, 102, 103, 104, 105] (by decide +kernel) (by decide +kernel)
set_option maxRecDepth 20000 in
theorem gX9_part_X9_opens : GoodIn wsX9_part (wsV RX9 225 RX9 yX9_opens wsX9_opens) := goodIn_app (goodIn_of _ (by decide +kernel)) ggX9_part_X9_opens
set_option maxRecDepth 20000 in
theorem ggX9_part_X9_emit : GoodIn wsX9_part wsX9_emit := goodIn_r _ [39, 40, 41, 42, 43, 44, 45, 46, 47, 48, 49, 50, 51, 52, 53, 54, 55, 56, 57, 58, 59, 60, 61, 62, 63, 64, 65, 66, 67, 68, 69, 70, 71, 72, 73, 74, 75, 76, 77, 78, 79, 80, 81, 82, 83, 84, 85, 86, 87, 88, 89, 90, 91, 92, 93, 94, 95, 96, 97, 98, 99, 100, 101, 102, 103, 104, 105] (by decide +kernel) (by decide +kernel)
set_option maxRecDepth 20000 in
theorem gX9_part_X9_emit : GoodIn wsX9_part (wsV RX9 235 RX9 yX9_emit wsX9_emit) := goodIn_app (goodIn_of _ (by decide +kernel)) ggX9_part_X9_emit
theorem dX9_part_0 : decode cX9_part 0 = .ok (.aload_n 0, 1) := by decide +kernel
theorem dX9_part_1 : decode cX9_part 1 = .ok (.invokevirtual 242, 3) := by decide +kernel
theorem dX9_part_4 : decode cX9_part 4 = .ok (.istore_n 1, 1) := by decide +kernel
theorem dX9_part_5 : decode cX9_part 5 = .ok (.aload_n 0, 1) := by decide +kernel
theorem dX9_part_6 : decode cX9_part 6 = .ok (.getfield 186, 3) := by decide +kernel
theorem dX9_part_9 : decode cX9_part 9 = .ok (.ifCond .ne 37, 3) := by decide +kernel
theorem dX9_part_12 : decode cX9_part 12 = .ok (.aload_n 0, 1) := by decide +kernel
theorem dX9_part_13 : decode cX9_part 13 = .ok (.getfield 24, 3) := by decide +kernel
theorem dX9_part_16 : decode cX9_part 16 = .ok (.aload_n 0, 1) := by decide +kernel
theorem dX9_part_17 : decode cX9_part 17 = .ok (.getfield 183, 3) := by decide +kernel
theorem dX9_part_20 : decode cX9_part 20 = .ok (.iaload, 1) := by decide +kernel
theorem dX9_part_21 : decode cX9_part 21 = .ok (.iconst 2, 1) := by decide +kernel
theorem dX9_part_22 : decode cX9_part 22 = .ok (.if_icmp .eq 24, 3) := by decide +kernel
theorem dX9_part_25 : decode cX9_part 25 = .ok (.aload_n 0, 1) := by decide +kernel
theorem dX9_part_26 : decode cX9_part 26 = .ok (.bipush 40, 2) := by decide +kernel
theorem dX9_part_28 : decode cX9_part 28 = .ok (.invokevirtual 189, 3) := by decide +kernel
theorem dX9_part_31 : decode cX9_part 31 = .ok (.ifCond .ne 15, 3) := by decide +kernel
theorem dX9_part_34 : decode cX9_part 34 = .ok (.iload_n 1, 1) := by decide +kernel
theorem dX9_part_35 : decode cX9_part 35 = .ok (.ifCond .ge 11, 3) := by decide +kernel
theorem dX9_part_38 : decode cX9_part 38 = .ok (.aload_n 0, 1) := by decide +kernel
theorem dX9_part_39 : decode cX9_part 39 = .ok (.iconst 1, 1) := by decide +kernel
theorem dX9_part_40 : decode cX9_part 40 = .ok (.invokevirtual 192, 3) := by decide +kernel
theorem dX9_part_43 : decode cX9_part 43 = .ok (.goto 16, 3) := by decide +kernel
theorem dX9_part_46 : decode cX9_part 46 = .ok (.aload_n 0, 1) := by decide +kernel
theorem dX9_part_47 : decode cX9_part 47 = .ok (.getfield 222, 3) := by decide +kernel
theorem dX9_part_50 : decode cX9_part 50 = .ok (.iconst 5, 1) := by decide +kernel
theorem dX9_part_51 : decode cX9_part 51 = .ok (.if_icmp .ne 8, 3) := by decide +kernel
theorem dX9_part_54 : decode cX9_part 54 = .ok (.aload_n 0, 1) := by decide +kernel
theorem dX9_part_55 : decode cX9_part 55 = .ok (.iconst 5, 1) := by decide +kernel
theorem dX9_part_56 : decode cX9_part 56 = .ok (.invokevirtual 192, 3) := by decide +kernel
theorem dX9_part_59 : decode cX9_part 59 = .ok (.aload_n 0, 1) := by decide +kernel
theorem dX9_part_60 : decode cX9_part 60 = .ok (.getfield 186, 3) := by decide +kernel
theorem dX9_part_63 : decode cX9_part 63 = .ok (.ifCond .le 5, 3) := by decide +kernel
theorem dX9_part_66 : decode cX9_part 66 = .ok (.iconst 0, 1) := by decide +kernel
theorem dX9_part_67 : decode cX9_part 67 = .ok (.ireturn, 1) := by decide +kernel
theorem dX9_part_68 : decode cX9_part 68 = .ok (.aload_n 0, 1) := by decide +kernel
theorem dX9_part_69 : decode cX9_part 69 = .ok (.bipush 40, 2) := by decide +kernel
theorem dX9_part_71 : decode cX9_part 71 = .ok (.invokevirtual 246, 3) := by decide +kernel
theorem dX9_part_74 : decode cX9_part 74 = .ok (.ifCond .eq 19, 3) := by decide +kernel
theorem dX9_part_77 : decode cX9_part 77 = .ok (.aload_n 0, 1) := by decide +kernel
theorem dX9_part_78 : decode cX9_part 78 = .ok (.dup, 1) := by decide +kernel
theorem dX9_part_79 : decode cX9_part 79 = .ok (.getfield 222, 3) := by decide +kernel
theorem dX9_part_82 : decode cX9_part 82 = .ok (.iconst 1, 1) := by decide +kernel
theorem dX9_part_83 : decode cX9_part 83 = .ok (.iadd, 1) := by decide +kernel
theorem dX9_part_84 : decode cX9_part 84 = .ok (.putfield 222, 3) := by decide +kernel
theorem dX9_part_87 : decode cX9_part 87 = .ok (.aload_n 0, 1) := by decide +kernel
theorem dX9_part_88 : decode cX9_part 88 = .ok (.invokevirtual 225, 3) := by decide +kernel
theorem dX9_part_91 : decode cX9_part 91 = .ok (.iconst 1, 1) := by decide +kernel
theorem dX9_part_92 : decode cX9_part 92 = .ok (.ireturn, 1) := by decide +kernel
theorem dX9_part_93 : decode cX9_part 93 = .ok (.aload_n 0, 1) := by decide +kernel
theorem dX9_part_94 : decode cX9_part 94 = .ok (.iload_n 1, 1) := by decide +kernel
theorem dX9_part_95 : decode cX9_part 95 = .ok (.ifCond .ge 7, 3) := by decide +kernel
theorem dX9_part_98 : decode cX9_part 98 = .ok (.iconst 1, 1) := by decide +kernel
theorem dX9_part_99 : decode cX9_part 99 = .ok (.goto 4, 3) := by decide +kernel
theorem dX9_part_102 : decode cX9_part 102 = .ok (.iconst 2, 1) := by decide +kernel
theorem dX9_part_103 : decode cX9_part 103 = .ok (.iload_n 1, 1) := by decide +kernel
theorem dX9_part_104 : decode cX9_part 104 = .ok (.ifCond .ge 16, 3) := by decide +kernel
theorem dX9_part_107 : decode cX9_part 107 = .ok (.aload_n 0, 1) := by decide +kernel
theorem dX9_part_108 : decode cX9_part 108 = .ok (.getfield 30, 3) := by decide +kernel
theorem dX9_part_111 : decode cX9_part 111 = .ok (.aload_n 0, 1) := by decide +kernel
theorem dX9_part_112 : decode cX9_part 112 = .ok (.getfield 183, 3) := by decide +kernel
theorem dX9_part_115 : decode cX9_part 115 = .ok (.laload, 1) := by decide +kernel
theorem dX9_part_116 : decode cX9_part 116 = .ok (.l2i, 1) := by decide +kernel
theorem dX9_part_117 : decode cX9_part 117 = .ok (.goto 4, 3) := by decide +kernel
theorem dX9_part_120 : decode cX9_part 120 = .ok (.iload_n 1, 1) := by decide +kernel
theorem dX9_part_121 : decode cX9_part 121 = .ok (.invokevirtual 235, 3) := by decide +kernel
theorem dX9_part_124 : decode cX9_part 124 = .ok (.aload_n 0, 1) := by decide +kernel
theorem dX9_part_125 : decode cX9_part 125 = .ok (.dup, 1) := by decide +kernel
theorem dX9_part_126 : decode cX9_part 126 = .ok (.getfield 183, 3) := by decide +kernel
theorem dX9_part_129 : decode cX9_part 129 = .ok (.iconst 1, 1) := by decide +kernel
theorem dX9_part_130 : decode cX9_part 130 = .ok (.iadd, 1) := by decide +kernel
theorem dX9_part_131 : decode cX9_part 131 = .ok (.putfield 183, 3) := by decide +kernel
theorem dX9_part_134 : decode cX9_part 134 = .ok (.iconst 0, 1) := by decide +kernel
theorem dX9_part_135 : decode cX9_part 135 = .ok (.ireturn, 1) := by decide +kernel
set_option maxRecDepth 20000 in
theorem ggX9_goesOnBehind_X9_emit : GoodIn wsX9_goesOnBehind wsX9_emit := goodIn_r _ [11, 12, 13, 14, 15, 36, 37, 38, 39, 40, 41, 42, 43, 44, 45, 46, 47, 48, 49, 50, 51, 52, 53, 54, 55, 56, 57, 58, 59, 60, 61, 62, 63, 64, 65, 66, 67, 68, 69, 70, 71, 72, 73, 74, 75, 76, 77, 78, 79, 80, 81, 82, 83, 84, 85, 86, 87, 88, 89, 90, 91, 92, 93, 94, 95, 96, 97] (by decide +kernel) (by decide +kernel)
set_option maxRecDepth 20000 in
theorem gX9_goesOnBehind_X9_emit : GoodIn wsX9_goesOnBehind (wsV RX9 235 RX9 yX9_emit wsX9_emit) := goodIn_app (goodIn_of _ (by decide +kernel)) ggX9_goesOnBehind_X9_emit
set_option maxRecDepth 20000 in
theorem ggX9_goesOnBehind_X9_isSign : GoodIn wsX9_goesOnBehind wsX9_isSign := goodIn_r _ [19, 1, 20, 4, 21, 36, 37, 38, 39, 40, 41, 42, 43, 44, 45, 46, 47, 48, 49, 50, 51, 52, 53, 54, 55, 56, 57, 58, 59, 60, 61, 62, 63, 64, 65, 66, 67, 68, 69, 70, 71, 72, 73, 74, 75, 76, 77, 78, 79, 80, 81, 82, 83, 84, 85, 86, 87, 88, 89, 90, 91, 92, 93, 94, 95, 96, 97] (by decide +kernel) (by decide +kernel)
set_option maxRecDepth 20000 in
theorem gX9_goesOnBehind_X9_isSign : GoodIn wsX9_goesOnBehind (wsV RX9 189 RX9 yX9_isSign wsX9_isSign) := goodIn_app (goodIn_of _ (by decide +kernel)) ggX9_goesOnBehind_X9_isSign
set_option maxRecDepth 20000 in
theorem ggX9_goesOnBehind_X9_isWord : GoodIn wsX9_goesOnBehind wsX9_isWord := goodIn_r _ [25, 1, 20, 4, 21, 26, 36, 37, 38, 39, 40, 41, 42, 43, 44, 45, 46, 47, 48, 49, 50, 51, 52, 53, 54, 55, 56, 57, 58, 59, 60, 61, 62, 63, 64, 65, 66, 67, 68, 69, 70, 71, 72, 73, 74, 75, 76, 77, 78, 79, 80, 81, 82, 83, 84, 85, 86, 87, 88, 89, 90, 91, 92, 93, 94, 95, 96, 97] (by decide +kernel) (by decide +kernel)
set_option maxRecDepth 20000 in
theorem gX9_goesOnBehind_X9_isWord : GoodIn wsX9_goesOnBehind (wsV RX9 196 RX9 yX9_isWord wsX9_isWord) := goodIn_app (goodIn_of _ (by decide +kernel)) ggX9_goesOnBehind_X9_isWord
set_option maxRecDepth 20000 in
theorem ggX9_goesOnBehind_X9_takeSign : GoodIn wsX9_goesOnBehind wsX9_takeSign := goodIn_r _ [30, 4, 16, 17, 18, 10, 19, 1, 20, 21, 31, 32, 33, 34, 35, 36, 37, 38, 39, 40, 41, 42, 43, 44, 45, 46, 47, 48, 49, 50, 51, 52, 53, 54, 55, 56, 57, 58, 59, 60, 61, 62, 63, 64, 65, 66, 67, 68, 69, 70, 71, 72, 73, 74, 75, 76, 77, 78, 79, 80, 81, 82, 83, 84, 85, 86, 87, 88, 89, 90, 91, 92, 93, 94, 95, 96, 97] (by decide +kernel) (by decide +kernel)
set_option maxRecDepth 20000 in
theorem gX9_goesOnBehind_X9_takeSign : GoodIn wsX9_goesOnBehind (wsV RX9 239 RX9 yX9_takeSign wsX9_takeSign) := goodIn_app (goodIn_of _ (by decide +kernel)) ggX9_goesOnBehind_X9_takeSign
theorem dX9_goesOnBehind_0 : decode cX9_goesOnBehind 0 = .ok (.aload_n 0, 1) := by decide +kernel
theorem dX9_goesOnBehind_1 : decode cX9_goesOnBehind 1 = .ok (.getfield 186, 3) := by decide +kernel
theorem dX9_goesOnBehind_4 : decode cX9_goesOnBehind 4 = .ok (.ifCond .ne 273, 3) := by decide +kernel
theorem dX9_goesOnBehind_7 : decode cX9_goesOnBehind 7 = .ok (.aload_n 0, 1) := by decide +kernel
theorem dX9_goesOnBehind_8 : decode cX9_goesOnBehind 8 = .ok (.getfield 70, 3) := by decide +kernel
theorem dX9_goesOnBehind_11 : decode cX9_goesOnBehind 11 = .ok (.aload_n 0, 1) := by decide +kernel
theorem dX9_goesOnBehind_12 : decode cX9_goesOnBehind 12 = .ok (.getfield 222, 3) := by decide +kernel
theorem dX9_goesOnBehind_15 : decode cX9_goesOnBehind 15 = .ok (.iaload, 1) := by decide +kernel
theorem dX9_goesOnBehind_16 : decode cX9_goesOnBehind 16 = .ok (.ifCond .eq 27, 3) := by decide +kernel
theorem dX9_goesOnBehind_19 : decode cX9_goesOnBehind 19 = .ok (.aload_n 0, 1) := by decide +kernel
theorem dX9_goesOnBehind_20 : decode cX9_goesOnBehind 20 = .ok (.aload_n 0, 1) := by decide +kernel
theorem dX9_goesOnBehind_21 : decode cX9_goesOnBehind 21 = .ok (.getfield 70, 3) := by decide +kernel
theorem dX9_goesOnBehind_24 : decode cX9_goesOnBehind 24 = .ok (.aload_n 0, 1) := by decide +kernel
theorem dX9_goesOnBehind_25 : decode cX9_goesOnBehind 25 = .ok (.getfield 222, 3) := by decide +kernel
theorem dX9_goesOnBehind_28 : decode cX9_goesOnBehind 28 = .ok (.iaload, 1) := by decide +kernel
theorem dX9_goesOnBehind_29 : decode cX9_goesOnBehind 29 = .ok (.iconst 0, 1) := by decide +kernel
theorem dX9_goesOnBehind_30 : decode cX9_goesOnBehind 30 = .ok (.invokevirtual 235, 3) := by decide +kernel
theorem dX9_goesOnBehind_33 : decode cX9_goesOnBehind 33 = .ok (.aload_n 0, 1) := by decide +kernel
theorem dX9_goesOnBehind_34 : decode cX9_goesOnBehind 34 = .ok (.getfield 70, 3) := by decide +kernel
theorem dX9_goesOnBehind_37 : decode cX9_goesOnBehind 37 = .ok (.aload_n 0, 1) := by decide +kernel
theorem dX9_goesOnBehind_38 : decode cX9_goesOnBehind 38 = .ok (.getfield 222, 3) := by decide +kernel
theorem dX9_goesOnBehind_41 : decode cX9_goesOnBehind 41 = .ok (.iconst 0, 1) := by decide +kernel
theorem dX9_goesOnBehind_42 : decode cX9_goesOnBehind 42 = .ok (.iastore, 1) := by decide +kernel
theorem dX9_goesOnBehind_43 : decode cX9_goesOnBehind 43 = .ok (.aload_n 0, 1) := by decide +kernel
theorem dX9_goesOnBehind_44 : decode cX9_goesOnBehind 44 = .ok (.bipush 43, 2) := by decide +kernel
theorem dX9_goesOnBehind_46 : decode cX9_goesOnBehind 46 = .ok (.invokevirtual 189, 3) := by decide +kernel
theorem dX9_goesOnBehind_49 : decode cX9_goesOnBehind 49 = .ok (.ifCond .ne 12, 3) := by decide +kernel
theorem dX9_goesOnBehind_52 : decode cX9_goesOnBehind 52 = .ok (.aload_n 0, 1) := by decide +kernel
theorem dX9_goesOnBehind_53 : decode cX9_goesOnBehind 53 = .ok (.bipush 45, 2) := by decide +kernel
theorem dX9_goesOnBehind_55 : decode cX9_goesOnBehind 55 = .ok (.invokevirtual 189, 3) := by decide +kernel
theorem dX9_goesOnBehind_58 : decode cX9_goesOnBehind 58 = .ok (.ifCond .eq 38, 3) := by decide +kernel
theorem dX9_goesOnBehind_61 : decode cX9_goesOnBehind 61 = .ok (.aload_n 0, 1) := by decide +kernel
theorem dX9_goesOnBehind_62 : decode cX9_goesOnBehind 62 = .ok (.getfield 70, 3) := by decide +kernel
theorem dX9_goesOnBehind_65 : decode cX9_goesOnBehind 65 = .ok (.aload_n 0, 1) := by decide +kernel
theorem dX9_goesOnBehind_66 : decode cX9_goesOnBehind 66 = .ok (.getfield 222, 3) := by decide +kernel
theorem dX9_goesOnBehind_69 : decode cX9_goesOnBehind 69 = .ok (.aload_n 0, 1) := by decide +kernel
theorem dX9_goesOnBehind_70 : decode cX9_goesOnBehind 70 = .ok (.bipush 43, 2) := by decide +kernel
theorem dX9_goesOnBehind_72 : decode cX9_goesOnBehind 72 = .ok (.invokevirtual 189, 3) := by decide +kernel
theorem dX9_goesOnBehind_75 : decode cX9_goesOnBehind 75 = .ok (.ifCond .eq 7, 3) := by decide +kernel
theorem dX9_goesOnBehind_78 : decode cX9_goesOnBehind 78 = .ok (.iconst 3, 1) := by decide +kernel
theorem dX9_goesOnBehind_79 : decode cX9_goesOnBehind 79 = .ok (.goto 4, 3) := by decide +kernel
theorem dX9_goesOnBehind_82 : decode cX9_goesOnBehind 82 = .ok (.iconst 4, 1) := by decide +kernel
theorem dX9_goesOnBehind_83 : decode cX9_goesOnBehind 83 = .ok (.iastore, 1) := by decide +kernel
theorem dX9_goesOnBehind_84 : decode cX9_goesOnBehind 84 = .ok (.aload_n 0, 1) := by decide +kernel
theorem dX9_goesOnBehind_85 : decode cX9_goesOnBehind 85 = .ok (.dup, 1) := by decide +kernel
theorem dX9_goesOnBehind_86 : decode cX9_goesOnBehind 86 = .ok (.getfield 183, 3) := by decide +kernel
theorem dX9_goesOnBehind_89 : decode cX9_goesOnBehind 89 = .ok (.iconst 1, 1) := by decide +kernel
theorem dX9_goesOnBehind_90 : decode cX9_goesOnBehind 90 = .ok (.iadd, 1) := by decide +kernel
theorem dX9_goesOnBehind_91 : decode cX9_goesOnBehind 91 = .ok (.putfield 183, 3) := by decide +kernel
theorem dX9_goesOnBehind_94 : decode cX9_goesOnBehind 94 = .ok (.iconst 1, 1) := by decide +kernel
theorem dX9_goesOnBehind_95 : decode cX9_goesOnBehind 95 = .ok (.ireturn, 1) := by decide +kernel
theorem dX9_goesOnBehind_96 : decode cX9_goesOnBehind 96 = .ok (.aload_n 0, 1) := by decide +kernel
theorem dX9_goesOnBehind_97 : decode cX9_goesOnBehind 97 = .ok (.getfield 73, 3) := by decide +kernel
theorem dX9_goesOnBehind_100 : decode cX9_goesOnBehind 100 = .ok (.aload_n 0, 1) := by decide +kernel
theorem dX9_goesOnBehind_101 : decode cX9_goesOnBehind 101 = .ok (.getfield 222, 3) := by decide +kernel
theorem dX9_goesOnBehind_104 : decode cX9_goesOnBehind 104 = .ok (.iaload, 1) := by decide +kernel
theorem dX9_goesOnBehind_105 : decode cX9_goesOnBehind 105 = .ok (.ifCond .eq 30, 3) := by decide +kernel
theorem dX9_goesOnBehind_108 : decode cX9_goesOnBehind 108 = .ok (.aload_n 0, 1) := by decide +kernel
theorem dX9_goesOnBehind_109 : decode cX9_goesOnBehind 109 = .ok (.aload_n 0, 1) := by decide +kernel
theorem dX9_goesOnBehind_110 : decode cX9_goesOnBehind 110 = .ok (.getfield 73, 3) := by decide +kernel
theorem dX9_goesOnBehind_113 : decode cX9_goesOnBehind 113 = .ok (.aload_n 0, 1) := by decide +kernel
theorem dX9_goesOnBehind_114 : decode cX9_goesOnBehind 114 = .ok (.getfield 222, 3) := by decide +kernel
theorem dX9_goesOnBehind_117 : decode cX9_goesOnBehind 117 = .ok (.iaload, 1) := by decide +kernel
theorem dX9_goesOnBehind_118 : decode cX9_goesOnBehind 118 = .ok (.iconst 0, 1) := by decide +kernel
theorem dX9_goesOnBehind_119 : decode cX9_goesOnBehind 119 = .ok (.invokevirtual 235, 3) := by decide +kernel
theorem dX9_goesOnBehind_122 : decode cX9_goesOnBehind 122 = .ok (.aload_n 0, 1) := by decide +kernel
theorem dX9_goesOnBehind_123 : decode cX9_goesOnBehind 123 = .ok (.getfield 73, 3) := by decide +kernel
theorem dX9_goesOnBehind_126 : decode cX9_goesOnBehind 126 = .ok (.aload_n 0, 1) := by decide +kernel
theorem dX9_goesOnBehind_127 : decode cX9_goesOnBehind 127 = .ok (.getfield 222, 3) := by decide +kernel
theorem dX9_goesOnBehind_130 : decode cX9_goesOnBehind 130 = .ok (.iconst 0, 1) := by decide +kernel
theorem dX9_goesOnBehind_131 : decode cX9_goesOnBehind 131 = .ok (.iastore, 1) := by decide +kernel
theorem dX9_goesOnBehind_132 : decode cX9_goesOnBehind 132 = .ok (.goto 57, 3) := by decide +kernel
theorem dX9_goesOnBehind_135 : decode cX9_goesOnBehind 135 = .ok (.aload_n 0, 1) := by decide +kernel
theorem dX9_goesOnBehind_136 : decode cX9_goesOnBehind 136 = .ok (.bipush 60, 2) := by decide +kernel
theorem dX9_goesOnBehind_138 : decode cX9_goesOnBehind 138 = .ok (.invokevirtual 189, 3) := by decide +kernel
theorem dX9_goesOnBehind_141 : decode cX9_goesOnBehind 141 = .ok (.ifCond .ne 12, 3) := by decide +kernel
theorem dX9_goesOnBehind_144 : decode cX9_goesOnBehind 144 = .ok (.aload_n 0, 1) := by decide +kernel
theorem dX9_goesOnBehind_145 : decode cX9_goesOnBehind 145 = .ok (.bipush 61, 2) := by decide +kernel
theorem dX9_goesOnBehind_147 : decode cX9_goesOnBehind 147 = .ok (.invokevirtual 189, 3) := by decide +kernel
theorem dX9_goesOnBehind_150 : decode cX9_goesOnBehind 150 = .ok (.ifCond .eq 39, 3) := by decide +kernel
theorem dX9_goesOnBehind_153 : decode cX9_goesOnBehind 153 = .ok (.aload_n 0, 1) := by decide +kernel
theorem dX9_goesOnBehind_154 : decode cX9_goesOnBehind 154 = .ok (.getfield 73, 3) := by decide +kernel
theorem dX9_goesOnBehind_157 : decode cX9_goesOnBehind 157 = .ok (.aload_n 0, 1) := by decide +kernel
theorem dX9_goesOnBehind_158 : decode cX9_goesOnBehind 158 = .ok (.getfield 222, 3) := by decide +kernel
theorem dX9_goesOnBehind_161 : decode cX9_goesOnBehind 161 = .ok (.aload_n 0, 1) := by decide +kernel
theorem dX9_goesOnBehind_162 : decode cX9_goesOnBehind 162 = .ok (.bipush 60, 2) := by decide +kernel
theorem dX9_goesOnBehind_164 : decode cX9_goesOnBehind 164 = .ok (.invokevirtual 189, 3) := by decide +kernel
theorem dX9_goesOnBehind_167 : decode cX9_goesOnBehind 167 = .ok (.ifCond .eq 7, 3) := by decide +kernel
theorem dX9_goesOnBehind_170 : decode cX9_goesOnBehind 170 = .ok (.iconst 5, 1) := by decide +kernel
theorem dX9_goesOnBehind_171 : decode cX9_goesOnBehind 171 = .ok (.goto 5, 3) := by decide +kernel
theorem dX9_goesOnBehind_174 : decode cX9_goesOnBehind 174 = .ok (.bipush 6, 2) := by decide +kernel
theorem dX9_goesOnBehind_176 : decode cX9_goesOnBehind 176 = .ok (.iastore, 1) := by decide +kernel
theorem dX9_goesOnBehind_177 : decode cX9_goesOnBehind 177 = .ok (.aload_n 0, 1) := by decide +kernel
theorem dX9_goesOnBehind_178 : decode cX9_goesOnBehind 178 = .ok (.dup, 1) := by decide +kernel
theorem dX9_goesOnBehind_179 : decode cX9_goesOnBehind 179 = .ok (.getfield 183, 3) := by decide +kernel
theorem dX9_goesOnBehind_182 : decode cX9_goesOnBehind 182 = .ok (.iconst 1, 1) := by decide +kernel
theorem dX9_goesOnBehind_183 : decode cX9_goesOnBehind 183 = .ok (.iadd, 1) := by decide +kernel
theorem dX9_goesOnBehind_184 : decode cX9_goesOnBehind 184 = .ok (.putfield 183, 3) := by decide +kernel
theorem dX9_goesOnBehind_187 : decode cX9_goesOnBehind 187 = .ok (.iconst 1, 1) := by decide +kernel
theorem dX9_goesOnBehind_188 : decode cX9_goesOnBehind 188 = .ok (.ireturn, 1) := by decide +kernel
theorem dX9_goesOnBehind_189 : decode cX9_goesOnBehind 189 = .ok (.aload_n 0, 1) := by decide +kernel
theorem dX9_goesOnBehind_190 : decode cX9_goesOnBehind 190 = .ok (.getfield 76, 3) := by decide +kernel
theorem dX9_goesOnBehind_193 : decode cX9_goesOnBehind 193 = .ok (.aload_n 0, 1) := by decide +kernel
theorem dX9_goesOnBehind_194 : decode cX9_goesOnBehind 194 = .ok (.getfield 222, 3) := by decide +kernel
theorem dX9_goesOnBehind_197 : decode cX9_goesOnBehind 197 = .ok (.iaload, 1) := by decide +kernel
theorem dX9_goesOnBehind_198 : decode cX9_goesOnBehind 198 = .ok (.ifCond .eq 20, 3) := by decide +kernel
theorem dX9_goesOnBehind_201 : decode cX9_goesOnBehind 201 = .ok (.aload_n 0, 1) := by decide +kernel
theorem dX9_goesOnBehind_202 : decode cX9_goesOnBehind 202 = .ok (.bipush 7, 2) := by decide +kernel
theorem dX9_goesOnBehind_204 : decode cX9_goesOnBehind 204 = .ok (.iconst 0, 1) := by decide +kernel
theorem dX9_goesOnBehind_205 : decode cX9_goesOnBehind 205 = .ok (.invokevirtual 235, 3) := by decide +kernel
theorem dX9_goesOnBehind_208 : decode cX9_goesOnBehind 208 = .ok (.aload_n 0, 1) := by decide +kernel
theorem dX9_goesOnBehind_209 : decode cX9_goesOnBehind 209 = .ok (.getfield 76, 3) := by decide +kernel
theorem dX9_goesOnBehind_212 : decode cX9_goesOnBehind 212 = .ok (.aload_n 0, 1) := by decide +kernel
theorem dX9_goesOnBehind_213 : decode cX9_goesOnBehind 213 = .ok (.getfield 222, 3) := by decide +kernel
theorem dX9_goesOnBehind_216 : decode cX9_goesOnBehind 216 = .ok (.iconst 0, 1) := by decide +kernel
theorem dX9_goesOnBehind_217 : decode cX9_goesOnBehind 217 = .ok (.iastore, 1) := by decide +kernel
theorem dX9_goesOnBehind_218 : decode cX9_goesOnBehind 218 = .ok (.aload_n 0, 1) := by decide +kernel
theorem dX9_goesOnBehind_219 : decode cX9_goesOnBehind 219 = .ok (.iconst 2, 1) := by decide +kernel
theorem dX9_goesOnBehind_220 : decode cX9_goesOnBehind 220 = .ok (.invokevirtual 196, 3) := by decide +kernel
theorem dX9_goesOnBehind_223 : decode cX9_goesOnBehind 223 = .ok (.ifCond .eq 26, 3) := by decide +kernel
theorem dX9_goesOnBehind_226 : decode cX9_goesOnBehind 226 = .ok (.aload_n 0, 1) := by decide +kernel
theorem dX9_goesOnBehind_227 : decode cX9_goesOnBehind 227 = .ok (.getfield 76, 3) := by decide +kernel
theorem dX9_goesOnBehind_230 : decode cX9_goesOnBehind 230 = .ok (.aload_n 0, 1) := by decide +kernel
theorem dX9_goesOnBehind_231 : decode cX9_goesOnBehind 231 = .ok (.getfield 222, 3) := by decide +kernel
theorem dX9_goesOnBehind_234 : decode cX9_goesOnBehind 234 = .ok (.bipush 7, 2) := by decide +kernel
theorem dX9_goesOnBehind_236 : decode cX9_goesOnBehind 236 = .ok (.iastore, 1) := by decide +kernel
theorem dX9_goesOnBehind_237 : decode cX9_goesOnBehind 237 = .ok (.aload_n 0, 1) := by decide +kernel
theorem dX9_goesOnBehind_238 : decode cX9_goesOnBehind 238 = .ok (.dup, 1) := by decide +kernel
theorem dX9_goesOnBehind_239 : decode cX9_goesOnBehind 239 = .ok (.getfield 183, 3) := by decide +kernel
theorem dX9_goesOnBehind_242 : decode cX9_goesOnBehind 242 = .ok (.iconst 1, 1) := by decide +kernel
theorem dX9_goesOnBehind_243 : decode cX9_goesOnBehind 243 = .ok (.iadd, 1) := by decide +kernel
theorem dX9_goesOnBehind_244 : decode cX9_goesOnBehind 244 = .ok (.putfield 183, 3) := by decide +kernel
theorem dX9_goesOnBehind_247 : decode cX9_goesOnBehind 247 = .ok (.iconst 1, 1) := by decide +kernel
theorem dX9_goesOnBehind_248 : decode cX9_goesOnBehind 248 = .ok (.ireturn, 1) := by decide +kernel
theorem dX9_goesOnBehind_249 : decode cX9_goesOnBehind 249 = .ok (.aload_n 0, 1) := by decide +kernel
theorem dX9_goesOnBehind_250 : decode cX9_goesOnBehind 250 = .ok (.getfield 222, 3) := by decide +kernel
theorem dX9_goesOnBehind_253 : decode cX9_goesOnBehind 253 = .ok (.ifCond .ne 5, 3) := by decide +kernel
theorem dX9_goesOnBehind_256 : decode cX9_goesOnBehind 256 = .ok (.iconst 0, 1) := by decide +kernel
theorem dX9_goesOnBehind_257 : decode cX9_goesOnBehind 257 = .ok (.ireturn, 1) := by decide +kernel
theorem dX9_goesOnBehind_258 : decode cX9_goesOnBehind 258 = .ok (.aload_n 0, 1) := by decide +kernel
theorem dX9_goesOnBehind_259 : decode cX9_goesOnBehind 259 = .ok (.bipush 41, 2) := by decide +kernel
theorem dX9_goesOnBehind_261 : decode cX9_goesOnBehind 261 = .ok (.invokevirtual 239, 3) := by decide +kernel
theorem dX9_goesOnBehind_264 : decode cX9_goesOnBehind 264 = .ok (.aload_n 0, 1) := by decide +kernel
theorem dX9_goesOnBehind_265 : decode cX9_goesOnBehind 265 = .ok (.dup, 1) := by decide +kernel
theorem dX9_goesOnBehind_266 : decode cX9_goesOnBehind 266 = .ok (.getfield 222, 3) := by decide +kernel
theorem dX9_goesOnBehind_269 : decode cX9_goesOnBehind 269 = .ok (.iconst 1, 1) := by decide +kernel
theorem dX9_goesOnBehind_270 : decode cX9_goesOnBehind 270 = .ok (.isub, 1) := by decide +kernel
theorem dX9_goesOnBehind_271 : decode cX9_goesOnBehind 271 = .ok (.putfield 222, 3) := by decide +kernel
theorem dX9_goesOnBehind_274 : decode cX9_goesOnBehind 274 = .ok (.goto (-274), 3) := by decide +kernel
theorem dX9_goesOnBehind_277 : decode cX9_goesOnBehind 277 = .ok (.iconst 0, 1) := by decide +kernel
theorem dX9_goesOnBehind_278 : decode cX9_goesOnBehind 278 = .ok (.ireturn, 1) := by decide +kernel
theorem dX9_worth_0 : decode cX9_worth 0 = .ok (.iload_n 1, 1) := by decide +kernel
theorem dX9_worth_1 : decode cX9_worth 1 = .ok (.istore_n 2, 1) := by decide +kernel
theorem dX9_worth_2 : decode cX9_worth 2 = .ok (.iconst 0, 1) := by decide +kernel
theorem dX9_worth_3 : decode cX9_worth 3 = .ok (.istore_n 3, 1) := by decide +kernel
theorem dX9_worth_4 : decode cX9_worth 4 = .ok (.aload_n 0, 1) := by decide +kernel
theorem dX9_worth_5 : decode cX9_worth 5 = .ok (.getfield 64, 3) := by decide +kernel
theorem dX9_worth_8 : decode cX9_worth 8 = .ok (.iload_n 2, 1) := by decide +kernel
theorem dX9_worth_9 : decode cX9_worth 9 = .ok (.iaload, 1) := by decide +kernel
theorem dX9_worth_10 : decode cX9_worth 10 = .ok (.ifCond .eq 182, 3) := by decide +kernel
theorem dX9_worth_13 : decode cX9_worth 13 = .ok (.aload_n 0, 1) := by decide +kernel
theorem dX9_worth_14 : decode cX9_worth 14 = .ok (.getfield 64, 3) := by decide +kernel
theorem dX9_worth_17 : decode cX9_worth 17 = .ok (.iload_n 2, 1) := by decide +kernel
theorem dX9_worth_18 : decode cX9_worth 18 = .ok (.iaload, 1) := by decide +kernel
theorem dX9_worth_19 : decode cX9_worth 19 = .ok (.istore 4, 2) := by decide +kernel
theorem dX9_worth_21 : decode cX9_worth 21 = .ok (.iload 4, 2) := by decide +kernel
theorem dX9_worth_23 : decode cX9_worth 23 = .ok (.iconst 1, 1) := by decide +kernel
theorem dX9_worth_24 : decode cX9_worth 24 = .ok (.if_icmp .eq 9, 3) := by decide +kernel
theorem dX9_worth_27 : decode cX9_worth 27 = .ok (.iload 4, 2) := by decide +kernel
theorem dX9_worth_29 : decode cX9_worth 29 = .ok (.iconst 2, 1) := by decide +kernel
theorem dX9_worth_30 : decode cX9_worth 30 = .ok (.if_icmp .ne 41, 3) := by decide +kernel
theorem dX9_worth_33 : decode cX9_worth 33 = .ok (.aload_n 0, 1) := by decide +kernel
theorem dX9_worth_34 : decode cX9_worth 34 = .ok (.getfield 82, 3) := by decide +kernel
theorem dX9_worth_37 : decode cX9_worth 37 = .ok (.iload_n 3, 1) := by decide +kernel
theorem dX9_worth_38 : decode cX9_worth 38 = .ok (.iload 4, 2) := by decide +kernel
theorem dX9_worth_40 : decode cX9_worth 40 = .ok (.iconst 1, 1) := by decide +kernel
theorem dX9_worth_41 : decode cX9_worth 41 = .ok (.if_icmp .ne 12, 3) := by decide +kernel
theorem dX9_worth_44 : decode cX9_worth 44 = .ok (.aload_n 0, 1) := by decide +kernel
theorem dX9_worth_45 : decode cX9_worth 45 = .ok (.getfield 67, 3) := by decide +kernel
theorem dX9_worth_48 : decode cX9_worth 48 = .ok (.iload_n 2, 1) := by decide +kernel
theorem dX9_worth_49 : decode cX9_worth 49 = .ok (.iaload, 1) := by decide +kernel
theorem dX9_worth_50 : decode cX9_worth 50 = .ok (.goto 14, 3) := by decide +kernel
theorem dX9_worth_53 : decode cX9_worth 53 = .ok (.aload_n 0, 1) := by decide +kernel
theorem dX9_worth_54 : decode cX9_worth 54 = .ok (.getfield 79, 3) := by decide +kernel
theorem dX9_worth_57 : decode cX9_worth 57 = .ok (.aload_n 0, 1) := by decide +kernel
theorem dX9_worth_58 : decode cX9_worth 58 = .ok (.getfield 67, 3) := by decide +kernel
theorem dX9_worth_61 : decode cX9_worth 61 = .ok (.iload_n 2, 1) := by decide +kernel
theorem dX9_worth_62 : decode cX9_worth 62 = .ok (.iaload, 1) := by decide +kernel
theorem dX9_worth_63 : decode cX9_worth 63 = .ok (.iaload, 1) := by decide +kernel
theorem dX9_worth_64 : decode cX9_worth 64 = .ok (.iastore, 1) := by decide +kernel
theorem dX9_worth_65 : decode cX9_worth 65 = .ok (.iinc 3 1, 3) := by decide +kernel
theorem dX9_worth_68 : decode cX9_worth 68 = .ok (.goto 118, 3) := by decide +kernel
theorem dX9_worth_71 : decode cX9_worth 71 = .ok (.iinc 3 (-1), 3) := by decide +kernel
theorem dX9_worth_74 : decode cX9_worth 74 = .ok (.aload_n 0, 1) := by decide +kernel
theorem dX9_worth_75 : decode cX9_worth 75 = .ok (.getfield 82, 3) := by decide +kernel
theorem dX9_worth_78 : decode cX9_worth 78 = .ok (.iload_n 3, 1) := by decide +kernel
theorem dX9_worth_79 : decode cX9_worth 79 = .ok (.iaload, 1) := by decide +kernel
theorem dX9_worth_80 : decode cX9_worth 80 = .ok (.istore 5, 2) := by decide +kernel
theorem dX9_worth_82 : decode cX9_worth 82 = .ok (.aload_n 0, 1) := by decide +kernel
theorem dX9_worth_83 : decode cX9_worth 83 = .ok (.getfield 82, 3) := by decide +kernel
theorem dX9_worth_86 : decode cX9_worth 86 = .ok (.iload_n 3, 1) := by decide +kernel
theorem dX9_worth_87 : decode cX9_worth 87 = .ok (.iconst 1, 1) := by decide +kernel
theorem dX9_worth_88 : decode cX9_worth 88 = .ok (.isub, 1) := by decide +kernel
theorem dX9_worth_89 : decode cX9_worth 89 = .ok (.iaload, 1) := by decide +kernel
theorem dX9_worth_90 : decode cX9_worth 90 = .ok (.istore 6, 2) := by decide +kernel
theorem dX9_worth_92 : decode cX9_worth 92 = .ok (.aload_n 0, 1) := by decide +kernel
theorem dX9_worth_93 : decode cX9_worth 93 = .ok (.getfield 82, 3) := by decide +kernel
theorem dX9_worth_96 : decode cX9_worth 96 = .ok (.iload_n 3, 1) := by decide +kernel
theorem dX9_worth_97 : decode cX9_worth 97 = .ok (.iconst 1, 1) := by decide +kernel
theorem dX9_worth_98 : decode cX9_worth 98 = .ok (.isub, 1) := by decide +kernel
theorem dX9_worth_99 : decode cX9_worth 99 = .ok (.iload 4, 2) := by decide +kernel
theorem dX9_worth_101 : decode cX9_worth 101 = .ok (.iconst 3, 1) := by decide +kernel
theorem dX9_worth_102 : decode cX9_worth 102 = .ok (.if_icmp .ne 11, 3) := by decide +kernel
theorem dX9_worth_105 : decode cX9_worth 105 = .ok (.iload 6, 2) := by decide +kernel
theorem dX9_worth_107 : decode cX9_worth 107 = .ok (.iload 5, 2) := by decide +kernel
theorem dX9_worth_109 : decode cX9_worth 109 = .ok (.iadd, 1) := by decide +kernel
theorem dX9_worth_110 : decode cX9_worth 110 = .ok (.goto 75, 3) := by decide +kernel
theorem dX9_worth_113 : decode cX9_worth 113 = .ok (.iload 4, 2) := by decide +kernel
theorem dX9_worth_115 : decode cX9_worth 115 = .ok (.iconst 4, 1) := by decide +kernel
theorem dX9_worth_116 : decode cX9_worth 116 = .ok (.if_icmp .ne 11, 3) := by decide +kernel
theorem dX9_worth_119 : decode cX9_worth 119 = .ok (.iload 6, 2) := by decide +kernel
theorem dX9_worth_121 : decode cX9_worth 121 = .ok (.iload 5, 2) := by decide +kernel
theorem dX9_worth_123 : decode cX9_worth 123 = .ok (.isub, 1) := by decide +kernel
theorem dX9_worth_124 : decode cX9_worth 124 = .ok (.goto 61, 3) := by decide +kernel
theorem dX9_worth_127 : decode cX9_worth 127 = .ok (.iload 4, 2) := by decide +kernel
theorem dX9_worth_129 : decode cX9_worth 129 = .ok (.iconst 5, 1) := by decide +kernel
theorem dX9_worth_130 : decode cX9_worth 130 = .ok (.if_icmp .ne 18, 3) := by decide +kernel
theorem dX9_worth_133 : decode cX9_worth 133 = .ok (.iload 6, 2) := by decide +kernel
theorem dX9_worth_135 : decode cX9_worth 135 = .ok (.iload 5, 2) := by decide +kernel
theorem dX9_worth_137 : decode cX9_worth 137 = .ok (.if_icmp .ge 7, 3) := by decide +kernel
theorem dX9_worth_140 : decode cX9_worth 140 = .ok (.iconst 1, 1) := by decide +kernel
theorem dX9_worth_141 : decode cX9_worth 141 = .ok (.goto 44, 3) := by decide +kernel
theorem dX9_worth_144 : decode cX9_worth 144 = .ok (.iconst 0, 1) := by decide +kernel
theorem dX9_worth_145 : decode cX9_worth 145 = .ok (.goto 40, 3) := by decide +kernel
theorem dX9_worth_148 : decode cX9_worth 148 = .ok (.iload 4, 2) := by decide +kernel
theorem dX9_worth_150 : decode cX9_worth 150 = .ok (.bipush 6, 2) := by decide +kernel
theorem dX9_worth_152 : decode cX9_worth 152 = .ok (.if_icmp .ne 18, 3) := by decide +kernel
theorem dX9_worth_155 : decode cX9_worth 155 = .ok (.iload 6, 2) := by decide +kernel
theorem dX9_worth_157 : decode cX9_worth 157 = .ok (.iload 5, 2) := by decide +kernel
theorem dX9_worth_159 : decode cX9_worth 159 = .ok (.if_icmp .ne 7, 3) := by decide +kernel
theorem dX9_worth_162 : decode cX9_worth 162 = .ok (.iconst 1, 1) := by decide +kernel
theorem dX9_worth_163 : decode cX9_worth 163 = .ok (.goto 22, 3) := by decide +kernel
theorem dX9_worth_166 : decode cX9_worth 166 = .ok (.iconst 0, 1) := by decide +kernel
theorem dX9_worth_167 : decode cX9_worth 167 = .ok (.goto 18, 3) := by decide +kernel
theorem dX9_worth_170 : decode cX9_worth 170 = .ok (.iload 6, 2) := by decide +kernel
theorem dX9_worth_172 : decode cX9_worth 172 = .ok (.ifCond .eq 12, 3) := by decide +kernel
theorem dX9_worth_175 : decode cX9_worth 175 = .ok (.iload 5, 2) := by decide +kernel
theorem dX9_worth_177 : decode cX9_worth 177 = .ok (.ifCond .eq 7, 3) := by decide +kernel
theorem dX9_worth_180 : decode cX9_worth 180 = .ok (.iconst 1, 1) := by decide +kernel
theorem dX9_worth_181 : decode cX9_worth 181 = .ok (.goto 4, 3) := by decide +kernel
theorem dX9_worth_184 : decode cX9_worth 184 = .ok (.iconst 0, 1) := by decide +kernel
theorem dX9_worth_185 : decode cX9_worth 185 = .ok (.iastore, 1) := by decide +kernel
theorem dX9_worth_186 : decode cX9_worth 186 = .ok (.iinc 2 1, 3) := by decide +kernel
theorem dX9_worth_189 : decode cX9_worth 189 = .ok (.goto (-185), 3) := by decide +kernel
theorem dX9_worth_192 : decode cX9_worth 192 = .ok (.aload_n 0, 1) := by decide +kernel
theorem dX9_worth_193 : decode cX9_worth 193 = .ok (.getfield 82, 3) := by decide +kernel
theorem dX9_worth_196 : decode cX9_worth 196 = .ok (.iconst 0, 1) := by decide +kernel
theorem dX9_worth_197 : decode cX9_worth 197 = .ok (.iaload, 1) := by decide +kernel
theorem dX9_worth_198 : decode cX9_worth 198 = .ok (.ireturn, 1) := by decide +kernel
theorem dX9_examiner_0 : decode cX9_examiner 0 = .ok (.aload_n 0, 1) := by decide +kernel
theorem dX9_examiner_1 : decode cX9_examiner 1 = .ok (.iconst 0, 1) := by decide +kernel
theorem dX9_examiner_2 : decode cX9_examiner 2 = .ok (.putfield 1, 3) := by decide +kernel
theorem dX9_examiner_5 : decode cX9_examiner 5 = .ok (.aload_n 0, 1) := by decide +kernel
theorem dX9_examiner_6 : decode cX9_examiner 6 = .ok (.getfield 249, 3) := by decide +kernel
theorem dX9_examiner_9 : decode cX9_examiner 9 = .ok (.bipush 8, 2) := by decide +kernel
theorem dX9_examiner_11 : decode cX9_examiner 11 = .ok (.if_icmp .ne 5, 3) := by decide +kernel
theorem dX9_examiner_14 : decode cX9_examiner 14 = .ok (.iconst (-1), 1) := by decide +kernel
theorem dX9_examiner_15 : decode cX9_examiner 15 = .ok (.ireturn, 1) := by decide +kernel
theorem dX9_examiner_16 : decode cX9_examiner 16 = .ok (.aload_n 0, 1) := by decide +kernel
theorem dX9_examiner_17 : decode cX9_examiner 17 = .ok (.dup, 1) := by decide +kernel
theorem dX9_examiner_18 : decode cX9_examiner 18 = .ok (.getfield 249, 3) := by decide +kernel
theorem dX9_examiner_21 : decode cX9_examiner 21 = .ok (.iconst 1, 1) := by decide +kernel
theorem dX9_examiner_22 : decode cX9_examiner 22 = .ok (.iadd, 1) := by decide +kernel
theorem dX9_examiner_23 : decode cX9_examiner 23 = .ok (.putfield 249, 3) := by decide +kernel
theorem dX9_examiner_26 : decode cX9_examiner 26 = .ok (.aload_n 0, 1) := by decide +kernel
theorem dX9_examiner_27 : decode cX9_examiner 27 = .ok (.getfield 249, 3) := by decide +kernel
theorem dX9_examiner_30 : decode cX9_examiner 30 = .ok (.iconst 1, 1) := by decide +kernel
theorem dX9_examiner_31 : decode cX9_examiner 31 = .ok (.isub, 1) := by decide +kernel
theorem dX9_examiner_32 : decode cX9_examiner 32 = .ok (.ireturn, 1) := by decide +kernel
theorem dX9_hasHour_0 : decode cX9_hasHour 0 = .ok (.aload_n 0, 1) := by decide +kernel
theorem dX9_hasHour_1 : decode cX9_hasHour 1 = .ok (.getfield 85, 3) := by decide +kernel
theorem dX9_hasHour_4 : decode cX9_hasHour 4 = .ok (.bipush 60, 2) := by decide +kernel
theorem dX9_hasHour_6 : decode cX9_hasHour 6 = .ok (.iload_n 1, 1) := by decide +kernel
theorem dX9_hasHour_7 : decode cX9_hasHour 7 = .ok (.imul, 1) := by decide +kernel
theorem dX9_hasHour_8 : decode cX9_hasHour 8 = .ok (.iload_n 2, 1) := by decide +kernel
theorem dX9_hasHour_9 : decode cX9_hasHour 9 = .ok (.iadd, 1) := by decide +kernel
theorem dX9_hasHour_10 : decode cX9_hasHour 10 = .ok (.iaload, 1) := by decide +kernel
theorem dX9_hasHour_11 : decode cX9_hasHour 11 = .ok (.istore 4, 2) := by decide +kernel
theorem dX9_hasHour_13 : decode cX9_hasHour 13 = .ok (.iload 4, 2) := by decide +kernel
theorem dX9_hasHour_15 : decode cX9_hasHour 15 = .ok (.ifCond .ge 5, 3) := by decide +kernel
theorem dX9_hasHour_18 : decode cX9_hasHour 18 = .ok (.iconst 0, 1) := by decide +kernel
theorem dX9_hasHour_19 : decode cX9_hasHour 19 = .ok (.ireturn, 1) := by decide +kernel
theorem dX9_hasHour_20 : decode cX9_hasHour 20 = .ok (.iload_n 2, 1) := by decide +kernel
theorem dX9_hasHour_21 : decode cX9_hasHour 21 = .ok (.ifCond .ne 7, 3) := by decide +kernel
theorem dX9_hasHour_24 : decode cX9_hasHour 24 = .ok (.iconst (-1), 1) := by decide +kernel
theorem dX9_hasHour_25 : decode cX9_hasHour 25 = .ok (.goto 16, 3) := by decide +kernel
theorem dX9_hasHour_28 : decode cX9_hasHour 28 = .ok (.aload_n 0, 1) := by decide +kernel
theorem dX9_hasHour_29 : decode cX9_hasHour 29 = .ok (.getfield 85, 3) := by decide +kernel
theorem dX9_hasHour_32 : decode cX9_hasHour 32 = .ok (.bipush 60, 2) := by decide +kernel
theorem dX9_hasHour_34 : decode cX9_hasHour 34 = .ok (.iload_n 1, 1) := by decide +kernel
theorem dX9_hasHour_35 : decode cX9_hasHour 35 = .ok (.imul, 1) := by decide +kernel
theorem dX9_hasHour_36 : decode cX9_hasHour 36 = .ok (.iload_n 2, 1) := by decide +kernel
theorem dX9_hasHour_37 : decode cX9_hasHour 37 = .ok (.iadd, 1) := by decide +kernel
theorem dX9_hasHour_38 : decode cX9_hasHour 38 = .ok (.iconst 1, 1) := by decide +kernel
theorem dX9_hasHour_39 : decode cX9_hasHour 39 = .ok (.isub, 1) := by decide +kernel
theorem dX9_hasHour_40 : decode cX9_hasHour 40 = .ok (.iaload, 1) := by decide +kernel
theorem dX9_hasHour_41 : decode cX9_hasHour 41 = .ok (.istore 5, 2) := by decide +kernel
theorem dX9_hasHour_43 : decode cX9_hasHour 43 = .ok (.iload_n 3, 1) := by decide +kernel
theorem dX9_hasHour_44 : decode cX9_hasHour 44 = .ok (.ifCond .gt 15, 3) := by decide +kernel
theorem dX9_hasHour_47 : decode cX9_hasHour 47 = .ok (.iload 5, 2) := by decide +kernel
theorem dX9_hasHour_49 : decode cX9_hasHour 49 = .ok (.ifCond .lt 10, 3) := by decide +kernel
theorem dX9_hasHour_52 : decode cX9_hasHour 52 = .ok (.iload 5, 2) := by decide +kernel
theorem dX9_hasHour_54 : decode cX9_hasHour 54 = .ok (.iload 4, 2) := by decide +kernel
theorem dX9_hasHour_56 : decode cX9_hasHour 56 = .ok (.if_icmp .ne 7, 3) := by decide +kernel
theorem dX9_hasHour_59 : decode cX9_hasHour 59 = .ok (.iconst 1, 1) := by decide +kernel
theorem dX9_hasHour_60 : decode cX9_hasHour 60 = .ok (.goto 4, 3) := by decide +kernel
theorem dX9_hasHour_63 : decode cX9_hasHour 63 = .ok (.iconst 0, 1) := by decide +kernel
theorem dX9_hasHour_64 : decode cX9_hasHour 64 = .ok (.ireturn, 1) := by decide +kernel
set_option maxRecDepth 20000 in
theorem ggX9_isThere_X9_hasHour : GoodIn wsX9_isThere wsX9_hasHour := goodIn_r _ [5, 6, 7, 8, 9, 10, 11, 12, 13, 14, 15, 16, 17, 18, 19, 20, 21, 22, 23, 24, 25, 26, 27, 28, 29, 30, 31, 32, 33, 34, 35, 36, 37, 38, 39, 40, 41, 42, 43, 44, 45, 46, 47, 48, 49, 50, 51, 52, 53, 54, 55, 56, 57, 58, 59, 60, 61, 62, 63, 64, 65, 66, 67, 68] (by decide +kernel) (by decide +kernel)
set_option maxRecDepth 20000 in
theorem gX9_isThere_X9_hasHour : GoodIn wsX9_isThere (wsV RX9 252 RX9 yX9_hasHour wsX9_hasHour) := goodIn_app (goodIn_of _ (by decide +kernel)) ggX9_isThere_X9_hasHour
theorem dX9_isThere_0 : decode cX9_isThere 0 = .ok (.aload_n 0, 1) := by decide +kernel
theorem dX9_isThere_1 : decode cX9_isThere 1 = .ok (.iload_n 1, 1) := by decide +kernel
theorem dX9_isThere_2 : decode cX9_isThere 2 = .ok (.bipush 8, 2) := by decide +kernel
theorem dX9_isThere_4 : decode cX9_isThere 4 = .ok (.irem, 1) := by decide +kernel
theorem dX9_isThere_5 : decode cX9_isThere 5 = .ok (.iload_n 1, 1) := by decide +kernel
theorem dX9_isThere_6 : decode cX9_isThere 6 = .ok (.bipush 48, 2) := by decide +kernel
theorem dX9_isThere_8 : decode cX9_isThere 8 = .ok (.idiv, 1) := by decide +kernel
theorem dX9_isThere_9 : decode cX9_isThere 9 = .ok (.iload_n 1, 1) := by decide +kernel
theorem dX9_isThere_10 : decode cX9_isThere 10 = .ok (.bipush 48, 2) := by decide +kernel
theorem dX9_isThere_12 : decode cX9_isThere 12 = .ok (.irem, 1) := by decide +kernel
theorem dX9_isThere_13 : decode cX9_isThere 13 = .ok (.bipush 8, 2) := by decide +kernel
theorem dX9_isThere_15 : decode cX9_isThere 15 = .ok (.idiv, 1) := by decide +kernel
theorem dX9_isThere_16 : decode cX9_isThere 16 = .ok (.invokevirtual 252, 3) := by decide +kernel
theorem dX9_isThere_19 : decode cX9_isThere 19 = .ok (.ireturn, 1) := by decide +kernel
theorem dX9_learner_0 : decode cX9_learner 0 = .ok (.aload_n 0, 1) := by decide +kernel
theorem dX9_learner_1 : decode cX9_learner 1 = .ok (.iconst 0, 1) := by decide +kernel
theorem dX9_learner_2 : decode cX9_learner 2 = .ok (.putfield 1, 3) := by decide +kernel
theorem dX9_learner_5 : decode cX9_learner 5 = .ok (.iload_n 1, 1) := by decide +kernel
theorem dX9_learner_6 : decode cX9_learner 6 = .ok (.ifCond .lt 55, 3) := by decide +kernel
theorem dX9_learner_9 : decode cX9_learner 9 = .ok (.iload_n 1, 1) := by decide +kernel
theorem dX9_learner_10 : decode cX9_learner 10 = .ok (.iconst 5, 1) := by decide +kernel
theorem dX9_learner_11 : decode cX9_learner 11 = .ok (.if_icmp .gt 50, 3) := by decide +kernel
theorem dX9_learner_14 : decode cX9_learner 14 = .ok (.iload_n 2, 1) := by decide +kernel
theorem dX9_learner_15 : decode cX9_learner 15 = .ok (.ifCond .lt 46, 3) := by decide +kernel
theorem dX9_learner_18 : decode cX9_learner 18 = .ok (.iload_n 2, 1) := by decide +kernel
theorem dX9_learner_19 : decode cX9_learner 19 = .ok (.iconst 3, 1) := by decide +kernel
theorem dX9_learner_20 : decode cX9_learner 20 = .ok (.if_icmp .gt 41, 3) := by decide +kernel
theorem dX9_learner_23 : decode cX9_learner 23 = .ok (.iload_n 3, 1) := by decide +kernel
theorem dX9_learner_24 : decode cX9_learner 24 = .ok (.ifCond .lt 37, 3) := by decide +kernel
theorem dX9_learner_27 : decode cX9_learner 27 = .ok (.iload 4, 2) := by decide +kernel
theorem dX9_learner_29 : decode cX9_learner 29 = .ok (.bipush 59, 2) := by decide +kernel
theorem dX9_learner_31 : decode cX9_learner 31 = .ok (.if_icmp .gt 30, 3) := by decide +kernel
theorem dX9_learner_34 : decode cX9_learner 34 = .ok (.iload_n 3, 1) := by decide +kernel
theorem dX9_learner_35 : decode cX9_learner 35 = .ok (.iload 4, 2) := by decide +kernel
theorem dX9_learner_37 : decode cX9_learner 37 = .ok (.if_icmp .gt 24, 3) := by decide +kernel
theorem dX9_learner_40 : decode cX9_learner 40 = .ok (.iload 5, 2) := by decide +kernel
theorem dX9_learner_42 : decode cX9_learner 42 = .ok (.ifCond .lt 19, 3) := by decide +kernel
theorem dX9_learner_45 : decode cX9_learner 45 = .ok (.iload 5, 2) := by decide +kernel
theorem dX9_learner_47 : decode cX9_learner 47 = .ok (.bipush 59, 2) := by decide +kernel
theorem dX9_learner_49 : decode cX9_learner 49 = .ok (.if_icmp .gt 12, 3) := by decide +kernel
theorem dX9_learner_52 : decode cX9_learner 52 = .ok (.aload_n 0, 1) := by decide +kernel
theorem dX9_learner_53 : decode cX9_learner 53 = .ok (.getfield 256, 3) := by decide +kernel
theorem dX9_learner_56 : decode cX9_learner 56 = .ok (.bipush 60, 2) := by decide +kernel
theorem dX9_learner_58 : decode cX9_learner 58 = .ok (.if_icmp .ne 5, 3) := by decide +kernel
theorem dX9_learner_61 : decode cX9_learner 61 = .ok (.iconst (-1), 1) := by decide +kernel
theorem dX9_learner_62 : decode cX9_learner 62 = .ok (.ireturn, 1) := by decide +kernel
theorem dX9_learner_63 : decode cX9_learner 63 = .ok (.aload_n 0, 1) := by decide +kernel
theorem dX9_learner_64 : decode cX9_learner 64 = .ok (.getfield 98, 3) := by decide +kernel
theorem dX9_learner_67 : decode cX9_learner 67 = .ok (.aload_n 0, 1) := by decide +kernel
theorem dX9_learner_68 : decode cX9_learner 68 = .ok (.getfield 256, 3) := by decide +kernel
theorem dX9_learner_71 : decode cX9_learner 71 = .ok (.iload_n 1, 1) := by decide +kernel
theorem dX9_learner_72 : decode cX9_learner 72 = .ok (.iastore, 1) := by decide +kernel
theorem dX9_learner_73 : decode cX9_learner 73 = .ok (.aload_n 0, 1) := by decide +kernel
theorem dX9_learner_74 : decode cX9_learner 74 = .ok (.getfield 101, 3) := by decide +kernel
theorem dX9_learner_77 : decode cX9_learner 77 = .ok (.aload_n 0, 1) := by decide +kernel
theorem dX9_learner_78 : decode cX9_learner 78 = .ok (.getfield 256, 3) := by decide +kernel
theorem dX9_learner_81 : decode cX9_learner 81 = .ok (.iload_n 2, 1) := by decide +kernel
theorem dX9_learner_82 : decode cX9_learner 82 = .ok (.iastore, 1) := by decide +kernel
theorem dX9_learner_83 : decode cX9_learner 83 = .ok (.aload_n 0, 1) := by decide +kernel
theorem dX9_learner_84 : decode cX9_learner 84 = .ok (.getfield 104, 3) := by decide +kernel
theorem dX9_learner_87 : decode cX9_learner 87 = .ok (.aload_n 0, 1) := by decide +kernel
theorem dX9_learner_88 : decode cX9_learner 88 = .ok (.getfield 256, 3) := by decide +kernel
theorem dX9_learner_91 : decode cX9_learner 91 = .ok (.iload_n 3, 1) := by decide +kernel
theorem dX9_learner_92 : decode cX9_learner 92 = .ok (.iastore, 1) := by decide +kernel
theorem dX9_learner_93 : decode cX9_learner 93 = .ok (.aload_n 0, 1) := by decide +kernel
theorem dX9_learner_94 : decode cX9_learner 94 = .ok (.getfield 107, 3) := by decide +kernel
theorem dX9_learner_97 : decode cX9_learner 97 = .ok (.aload_n 0, 1) := by decide +kernel
theorem dX9_learner_98 : decode cX9_learner 98 = .ok (.getfield 256, 3) := by decide +kernel
theorem dX9_learner_101 : decode cX9_learner 101 = .ok (.iload 4, 2) := by decide +kernel
theorem dX9_learner_103 : decode cX9_learner 103 = .ok (.iastore, 1) := by decide +kernel
theorem dX9_learner_104 : decode cX9_learner 104 = .ok (.aload_n 0, 1) := by decide +kernel
theorem dX9_learner_105 : decode cX9_learner 105 = .ok (.getfield 110, 3) := by decide +kernel
theorem dX9_learner_108 : decode cX9_learner 108 = .ok (.aload_n 0, 1) := by decide +kernel
theorem dX9_learner_109 : decode cX9_learner 109 = .ok (.getfield 256, 3) := by decide +kernel
theorem dX9_learner_112 : decode cX9_learner 112 = .ok (.iload 5, 2) := by decide +kernel
theorem dX9_learner_114 : decode cX9_learner 114 = .ok (.iastore, 1) := by decide +kernel
theorem dX9_learner_115 : decode cX9_learner 115 = .ok (.aload_n 0, 1) := by decide +kernel
theorem dX9_learner_116 : decode cX9_learner 116 = .ok (.getfield 113, 3) := by decide +kernel
theorem dX9_learner_119 : decode cX9_learner 119 = .ok (.aload_n 0, 1) := by decide +kernel
theorem dX9_learner_120 : decode cX9_learner 120 = .ok (.getfield 256, 3) := by decide +kernel
theorem dX9_learner_123 : decode cX9_learner 123 = .ok (.iload 6, 2) := by decide +kernel
theorem dX9_learner_125 : decode cX9_learner 125 = .ok (.bastore, 1) := by decide +kernel
theorem dX9_learner_126 : decode cX9_learner 126 = .ok (.aload_n 0, 1) := by decide +kernel
theorem dX9_learner_127 : decode cX9_learner 127 = .ok (.getfield 116, 3) := by decide +kernel
theorem dX9_learner_130 : decode cX9_learner 130 = .ok (.aload_n 0, 1) := by decide +kernel
theorem dX9_learner_131 : decode cX9_learner 131 = .ok (.getfield 256, 3) := by decide +kernel
theorem dX9_learner_134 : decode cX9_learner 134 = .ok (.aload_n 0, 1) := by decide +kernel
theorem dX9_learner_135 : decode cX9_learner 135 = .ok (.getfield 259, 3) := by decide +kernel
theorem dX9_learner_138 : decode cX9_learner 138 = .ok (.iastore, 1) := by decide +kernel
theorem dX9_learner_139 : decode cX9_learner 139 = .ok (.aload_n 0, 1) := by decide +kernel
theorem dX9_learner_140 : decode cX9_learner 140 = .ok (.getfield 119, 3) := by decide +kernel
theorem dX9_learner_143 : decode cX9_learner 143 = .ok (.aload_n 0, 1) := by decide +kernel
theorem dX9_learner_144 : decode cX9_learner 144 = .ok (.getfield 256, 3) := by decide +kernel
theorem dX9_learner_147 : decode cX9_learner 147 = .ok (.iconst 0, 1) := by decide +kernel
theorem dX9_learner_148 : decode cX9_learner 148 = .ok (.iastore, 1) := by decide +kernel
theorem dX9_learner_149 : decode cX9_learner 149 = .ok (.aload_n 0, 1) := by decide +kernel
theorem dX9_learner_150 : decode cX9_learner 150 = .ok (.getfield 122, 3) := by decide +kernel
theorem dX9_learner_153 : decode cX9_learner 153 = .ok (.aload_n 0, 1) := by decide +kernel
theorem dX9_learner_154 : decode cX9_learner 154 = .ok (.getfield 256, 3) := by decide +kernel
theorem dX9_learner_157 : decode cX9_learner 157 = .ok (.iconst (-1), 1) := by decide +kernel
theorem dX9_learner_158 : decode cX9_learner 158 = .ok (.iastore, 1) := by decide +kernel
theorem dX9_learner_159 : decode cX9_learner 159 = .ok (.aload_n 0, 1) := by decide +kernel
theorem dX9_learner_160 : decode cX9_learner 160 = .ok (.dup, 1) := by decide +kernel
theorem dX9_learner_161 : decode cX9_learner 161 = .ok (.getfield 256, 3) := by decide +kernel
theorem dX9_learner_164 : decode cX9_learner 164 = .ok (.iconst 1, 1) := by decide +kernel
theorem dX9_learner_165 : decode cX9_learner 165 = .ok (.iadd, 1) := by decide +kernel
theorem dX9_learner_166 : decode cX9_learner 166 = .ok (.putfield 256, 3) := by decide +kernel
theorem dX9_learner_169 : decode cX9_learner 169 = .ok (.aload_n 0, 1) := by decide +kernel
theorem dX9_learner_170 : decode cX9_learner 170 = .ok (.getfield 256, 3) := by decide +kernel
theorem dX9_learner_173 : decode cX9_learner 173 = .ok (.iconst 1, 1) := by decide +kernel
theorem dX9_learner_174 : decode cX9_learner 174 = .ok (.isub, 1) := by decide +kernel
theorem dX9_learner_175 : decode cX9_learner 175 = .ok (.ireturn, 1) := by decide +kernel
theorem dX9_isLearner_0 : decode cX9_isLearner 0 = .ok (.iload_n 1, 1) := by decide +kernel
theorem dX9_isLearner_1 : decode cX9_isLearner 1 = .ok (.ifCond .lt 15, 3) := by decide +kernel
theorem dX9_isLearner_4 : decode cX9_isLearner 4 = .ok (.iload_n 1, 1) := by decide +kernel
theorem dX9_isLearner_5 : decode cX9_isLearner 5 = .ok (.aload_n 0, 1) := by decide +kernel
theorem dX9_isLearner_6 : decode cX9_isLearner 6 = .ok (.getfield 256, 3) := by decide +kernel
theorem dX9_isLearner_9 : decode cX9_isLearner 9 = .ok (.if_icmp .ge 7, 3) := by decide +kernel
theorem dX9_isLearner_12 : decode cX9_isLearner 12 = .ok (.iconst 1, 1) := by decide +kernel
theorem dX9_isLearner_13 : decode cX9_isLearner 13 = .ok (.goto 4, 3) := by decide +kernel
theorem dX9_isLearner_16 : decode cX9_isLearner 16 = .ok (.iconst 0, 1) := by decide +kernel
theorem dX9_isLearner_17 : decode cX9_isLearner 17 = .ok (.ireturn, 1) := by decide +kernel
theorem dX9_bookedAt_0 : decode cX9_bookedAt 0 = .ok (.iconst (-1), 1) := by decide +kernel
theorem dX9_bookedAt_1 : decode cX9_bookedAt 1 = .ok (.istore_n 2, 1) := by decide +kernel
theorem dX9_bookedAt_2 : decode cX9_bookedAt 2 = .ok (.iconst 0, 1) := by decide +kernel
theorem dX9_bookedAt_3 : decode cX9_bookedAt 3 = .ok (.istore_n 3, 1) := by decide +kernel
theorem dX9_bookedAt_4 : decode cX9_bookedAt 4 = .ok (.iload_n 3, 1) := by decide +kernel
theorem dX9_bookedAt_5 : decode cX9_bookedAt 5 = .ok (.aload_n 0, 1) := by decide +kernel
theorem dX9_bookedAt_6 : decode cX9_bookedAt 6 = .ok (.getfield 256, 3) := by decide +kernel
theorem dX9_bookedAt_9 : decode cX9_bookedAt 9 = .ok (.if_icmp .ge 35, 3) := by decide +kernel
theorem dX9_bookedAt_12 : decode cX9_bookedAt 12 = .ok (.aload_n 0, 1) := by decide +kernel
theorem dX9_bookedAt_13 : decode cX9_bookedAt 13 = .ok (.getfield 119, 3) := by decide +kernel
theorem dX9_bookedAt_16 : decode cX9_bookedAt 16 = .ok (.iload_n 3, 1) := by decide +kernel
theorem dX9_bookedAt_17 : decode cX9_bookedAt 17 = .ok (.iaload, 1) := by decide +kernel
theorem dX9_bookedAt_18 : decode cX9_bookedAt 18 = .ok (.iconst 1, 1) := by decide +kernel
theorem dX9_bookedAt_19 : decode cX9_bookedAt 19 = .ok (.if_icmp .ne 17, 3) := by decide +kernel
theorem dX9_bookedAt_22 : decode cX9_bookedAt 22 = .ok (.aload_n 0, 1) := by decide +kernel
theorem dX9_bookedAt_23 : decode cX9_bookedAt 23 = .ok (.getfield 122, 3) := by decide +kernel
theorem dX9_bookedAt_26 : decode cX9_bookedAt 26 = .ok (.iload_n 3, 1) := by decide +kernel
theorem dX9_bookedAt_27 : decode cX9_bookedAt 27 = .ok (.iaload, 1) := by decide +kernel
theorem dX9_bookedAt_28 : decode cX9_bookedAt 28 = .ok (.iload_n 1, 1) := by decide +kernel
theorem dX9_bookedAt_29 : decode cX9_bookedAt 29 = .ok (.if_icmp .ne 7, 3) := by decide +kernel
theorem dX9_bookedAt_32 : decode cX9_bookedAt 32 = .ok (.iload_n 3, 1) := by decide +kernel
theorem dX9_bookedAt_33 : decode cX9_bookedAt 33 = .ok (.goto 4, 3) := by decide +kernel
theorem dX9_bookedAt_36 : decode cX9_bookedAt 36 = .ok (.iload_n 2, 1) := by decide +kernel
theorem dX9_bookedAt_37 : decode cX9_bookedAt 37 = .ok (.istore_n 2, 1) := by decide +kernel
theorem dX9_bookedAt_38 : decode cX9_bookedAt 38 = .ok (.iinc 3 1, 3) := by decide +kernel
theorem dX9_bookedAt_41 : decode cX9_bookedAt 41 = .ok (.goto (-37), 3) := by decide +kernel
theorem dX9_bookedAt_44 : decode cX9_bookedAt 44 = .ok (.iload_n 2, 1) := by decide +kernel
theorem dX9_bookedAt_45 : decode cX9_bookedAt 45 = .ok (.ireturn, 1) := by decide +kernel
set_option maxRecDepth 20000 in
theorem ggX9_isFree_X9_isThere : GoodIn wsX9_isFree wsX9_isThere := goodIn_r _ [8, 9, 10, 11, 7, 12, 13, 21, 22, 23, 24, 25, 26, 27, 28, 29, 30, 31, 32, 33, 34, 35, 36, 37, 38, 39, 40, 41, 42, 43, 44, 45, 46, 47, 48, 49, 50, 51, 52, 53, 54, 55, 56, 57, 58, 59, 60, 61, 62, 63, 64, 65, 66, 67, 68, 69, 70, 71, 72, 73, 74, 75, 76, 77, 78, 79, 80, 81, 82] (by decide +kernel) (by decide +kernel)
set_option maxRecDepth 20000 in
theorem gX9_isFree_X9_isThere : GoodIn wsX9_isFree (wsV RX9 262 RX9 yX9_isThere wsX9_isThere) := goodIn_app (goodIn_of _ (by decide +kernel)) ggX9_isFree_X9_isThere
set_option maxRecDepth 20000 in
theorem ggX9_isFree_X9_bookedAt : GoodIn wsX9_isFree wsX9_bookedAt := goodIn_r _ [17, 18, 19, 20, 21, 22, 23, 24, 25, 26, 27, 28, 29, 30, 31, 32, 33, 34, 35, 36, 37, 38, 39, 40, 41, 42, 43, 44, 45, 46, 47, 48, 49, 50, 51, 52, 53, 54, 55, 56, 57, 58, 59, 60, 61, 62, 63, 64, 65, 66, 67, 68, 69, 70, 71, 72, 73, 74, 75, 76, 77, 78, 79, 80, 81, 82] (by decide +kernel) (by decide +kernel)
set_option maxRecDepth 20000 in
theorem gX9_isFree_X9_bookedAt : GoodIn wsX9_isFree (wsV RX9 265 RX9 yX9_bookedAt wsX9_bookedAt) := goodIn_app (goodIn_of _ (by decide +kernel)) ggX9_isFree_X9_bookedAt
theorem dX9_isFree_0 : decode cX9_isFree 0 = .ok (.iload_n 1, 1) := by decide +kernel
theorem dX9_isFree_1 : decode cX9_isFree 1 = .ok (.bipush 48, 2) := by decide +kernel
theorem dX9_isFree_3 : decode cX9_isFree 3 = .ok (.idiv, 1) := by decide +kernel
theorem dX9_isFree_4 : decode cX9_isFree 4 = .ok (.aload_n 0, 1) := by decide +kernel
theorem dX9_isFree_5 : decode cX9_isFree 5 = .ok (.getfield 259, 3) := by decide +kernel
theorem dX9_isFree_8 : decode cX9_isFree 8 = .ok (.if_icmp .le 46, 3) := by decide +kernel
theorem dX9_isFree_11 : decode cX9_isFree 11 = .ok (.aload_n 0, 1) := by decide +kernel
theorem dX9_isFree_12 : decode cX9_isFree 12 = .ok (.getfield 88, 3) := by decide +kernel
theorem dX9_isFree_15 : decode cX9_isFree 15 = .ok (.iload_n 1, 1) := by decide +kernel
theorem dX9_isFree_16 : decode cX9_isFree 16 = .ok (.bipush 48, 2) := by decide +kernel
theorem dX9_isFree_18 : decode cX9_isFree 18 = .ok (.idiv, 1) := by decide +kernel
theorem dX9_isFree_19 : decode cX9_isFree 19 = .ok (.baload, 1) := by decide +kernel
theorem dX9_isFree_20 : decode cX9_isFree 20 = .ok (.ifCond .ne 34, 3) := by decide +kernel
theorem dX9_isFree_23 : decode cX9_isFree 23 = .ok (.iload_n 1, 1) := by decide +kernel
theorem dX9_isFree_24 : decode cX9_isFree 24 = .ok (.bipush 8, 2) := by decide +kernel
theorem dX9_isFree_26 : decode cX9_isFree 26 = .ok (.irem, 1) := by decide +kernel
theorem dX9_isFree_27 : decode cX9_isFree 27 = .ok (.aload_n 0, 1) := by decide +kernel
theorem dX9_isFree_28 : decode cX9_isFree 28 = .ok (.getfield 249, 3) := by decide +kernel
theorem dX9_isFree_31 : decode cX9_isFree 31 = .ok (.if_icmp .ge 23, 3) := by decide +kernel
theorem dX9_isFree_34 : decode cX9_isFree 34 = .ok (.aload_n 0, 1) := by decide +kernel
theorem dX9_isFree_35 : decode cX9_isFree 35 = .ok (.iload_n 1, 1) := by decide +kernel
theorem dX9_isFree_36 : decode cX9_isFree 36 = .ok (.invokevirtual 262, 3) := by decide +kernel
theorem dX9_isFree_39 : decode cX9_isFree 39 = .ok (.ifCond .eq 15, 3) := by decide +kernel
theorem dX9_isFree_42 : decode cX9_isFree 42 = .ok (.aload_n 0, 1) := by decide +kernel
theorem dX9_isFree_43 : decode cX9_isFree 43 = .ok (.iload_n 1, 1) := by decide +kernel
theorem dX9_isFree_44 : decode cX9_isFree 44 = .ok (.invokevirtual 265, 3) := by decide +kernel
theorem dX9_isFree_47 : decode cX9_isFree 47 = .ok (.ifCond .ge 7, 3) := by decide +kernel
theorem dX9_isFree_50 : decode cX9_isFree 50 = .ok (.iconst 1, 1) := by decide +kernel
theorem dX9_isFree_51 : decode cX9_isFree 51 = .ok (.goto 4, 3) := by decide +kernel
theorem dX9_isFree_54 : decode cX9_isFree 54 = .ok (.iconst 0, 1) := by decide +kernel
theorem dX9_isFree_55 : decode cX9_isFree 55 = .ok (.ireturn, 1) := by decide +kernel
theorem dX9_suits_0 : decode cX9_suits 0 = .ok (.iload_n 1, 1) := by decide +kernel
theorem dX9_suits_1 : decode cX9_suits 1 = .ok (.bipush 48, 2) := by decide +kernel
theorem dX9_suits_3 : decode cX9_suits 3 = .ok (.idiv, 1) := by decide +kernel
theorem dX9_suits_4 : decode cX9_suits 4 = .ok (.istore_n 3, 1) := by decide +kernel
theorem dX9_suits_5 : decode cX9_suits 5 = .ok (.aload_n 0, 1) := by decide +kernel
theorem dX9_suits_6 : decode cX9_suits 6 = .ok (.getfield 85, 3) := by decide +kernel
theorem dX9_suits_9 : decode cX9_suits 9 = .ok (.bipush 60, 2) := by decide +kernel
theorem dX9_suits_11 : decode cX9_suits 11 = .ok (.iload_n 1, 1) := by decide +kernel
theorem dX9_suits_12 : decode cX9_suits 12 = .ok (.bipush 8, 2) := by decide +kernel
theorem dX9_suits_14 : decode cX9_suits 14 = .ok (.irem, 1) := by decide +kernel
theorem dX9_suits_15 : decode cX9_suits 15 = .ok (.imul, 1) := by decide +kernel
theorem dX9_suits_16 : decode cX9_suits 16 = .ok (.iload_n 3, 1) := by decide +kernel
theorem dX9_suits_17 : decode cX9_suits 17 = .ok (.iadd, 1) := by decide +kernel
theorem dX9_suits_18 : decode cX9_suits 18 = .ok (.iaload, 1) := by decide +kernel
theorem dX9_suits_19 : decode cX9_suits 19 = .ok (.aload_n 0, 1) := by decide +kernel
theorem dX9_suits_20 : decode cX9_suits 20 = .ok (.getfield 98, 3) := by decide +kernel
theorem dX9_suits_23 : decode cX9_suits 23 = .ok (.iload_n 2, 1) := by decide +kernel
theorem dX9_suits_24 : decode cX9_suits 24 = .ok (.iaload, 1) := by decide +kernel
theorem dX9_suits_25 : decode cX9_suits 25 = .ok (.if_icmp .ne 37, 3) := by decide +kernel
theorem dX9_suits_28 : decode cX9_suits 28 = .ok (.iload_n 3, 1) := by decide +kernel
theorem dX9_suits_29 : decode cX9_suits 29 = .ok (.aload_n 0, 1) := by decide +kernel
theorem dX9_suits_30 : decode cX9_suits 30 = .ok (.getfield 110, 3) := by decide +kernel
theorem dX9_suits_33 : decode cX9_suits 33 = .ok (.iload_n 2, 1) := by decide +kernel
theorem dX9_suits_34 : decode cX9_suits 34 = .ok (.iaload, 1) := by decide +kernel
theorem dX9_suits_35 : decode cX9_suits 35 = .ok (.if_icmp .lt 27, 3) := by decide +kernel
theorem dX9_suits_38 : decode cX9_suits 38 = .ok (.iload_n 3, 1) := by decide +kernel
theorem dX9_suits_39 : decode cX9_suits 39 = .ok (.aload_n 0, 1) := by decide +kernel
theorem dX9_suits_40 : decode cX9_suits 40 = .ok (.getfield 104, 3) := by decide +kernel
theorem dX9_suits_43 : decode cX9_suits 43 = .ok (.iload_n 2, 1) := by decide +kernel
theorem dX9_suits_44 : decode cX9_suits 44 = .ok (.iaload, 1) := by decide +kernel
theorem dX9_suits_45 : decode cX9_suits 45 = .ok (.if_icmp .lt 17, 3) := by decide +kernel
theorem dX9_suits_48 : decode cX9_suits 48 = .ok (.iload_n 3, 1) := by decide +kernel
theorem dX9_suits_49 : decode cX9_suits 49 = .ok (.aload_n 0, 1) := by decide +kernel
theorem dX9_suits_50 : decode cX9_suits 50 = .ok (.getfield 107, 3) := by decide +kernel
theorem dX9_suits_53 : decode cX9_suits 53 = .ok (.iload_n 2, 1) := by decide +kernel
theorem dX9_suits_54 : decode cX9_suits 54 = .ok (.iaload, 1) := by decide +kernel
theorem dX9_suits_55 : decode cX9_suits 55 = .ok (.if_icmp .gt 7, 3) := by decide +kernel
theorem dX9_suits_58 : decode cX9_suits 58 = .ok (.iconst 1, 1) := by decide +kernel
theorem dX9_suits_59 : decode cX9_suits 59 = .ok (.goto 4, 3) := by decide +kernel
theorem dX9_suits_62 : decode cX9_suits 62 = .ok (.iconst 0, 1) := by decide +kernel
theorem dX9_suits_63 : decode cX9_suits 63 = .ok (.ireturn, 1) := by decide +kernel
set_option maxRecDepth 20000 in
theorem ggX9_rankOf_X9_worth : GoodIn wsX9_rankOf wsX9_worth := goodIn_r _ [16, 17, 18, 19, 1, 20, 21, 22, 23, 24, 25, 26, 27, 28, 29, 30, 31, 32, 33, 34, 35, 36, 37, 38, 39, 40, 41, 42, 43, 44, 45, 46, 47, 48, 49, 50, 51, 52, 53, 54, 55, 56, 57, 58, 59, 60, 61, 62, 63, 64, 65, 66, 67, 68, 69, 70, 71, 72, 73, 74, 75, 76, 77, 78, 79, 80, 81] (by decide +kernel) (by decide +kernel)
set_option maxRecDepth 20000 in
theorem gX9_rankOf_X9_worth : GoodIn wsX9_rankOf (wsV RX9 268 RX9 yX9_worth wsX9_worth) := goodIn_app (goodIn_of _ (by decide +kernel)) ggX9_rankOf_X9_worth
theorem dX9_rankOf_0 : decode cX9_rankOf 0 = .ok (.aload_n 0, 1) := by decide +kernel
theorem dX9_rankOf_1 : decode cX9_rankOf 1 = .ok (.getfield 79, 3) := by decide +kernel
theorem dX9_rankOf_4 : decode cX9_rankOf 4 = .ok (.iconst 0, 1) := by decide +kernel
theorem dX9_rankOf_5 : decode cX9_rankOf 5 = .ok (.aload_n 0, 1) := by decide +kernel
theorem dX9_rankOf_6 : decode cX9_rankOf 6 = .ok (.getfield 101, 3) := by decide +kernel
theorem dX9_rankOf_9 : decode cX9_rankOf 9 = .ok (.iload_n 1, 1) := by decide +kernel
theorem dX9_rankOf_10 : decode cX9_rankOf 10 = .ok (.iaload, 1) := by decide +kernel
theorem dX9_rankOf_11 : decode cX9_rankOf 11 = .ok (.iastore, 1) := by decide +kernel
theorem dX9_rankOf_12 : decode cX9_rankOf 12 = .ok (.aload_n 0, 1) := by decide +kernel
theorem dX9_rankOf_13 : decode cX9_rankOf 13 = .ok (.getfield 79, 3) := by decide +kernel
theorem dX9_rankOf_16 : decode cX9_rankOf 16 = .ok (.iconst 1, 1) := by decide +kernel
theorem dX9_rankOf_17 : decode cX9_rankOf 17 = .ok (.aload_n 0, 1) := by decide +kernel
theorem dX9_rankOf_18 : decode cX9_rankOf 18 = .ok (.getfield 98, 3) := by decide +kernel
theorem dX9_rankOf_21 : decode cX9_rankOf 21 = .ok (.iload_n 1, 1) := by decide +kernel
theorem dX9_rankOf_22 : decode cX9_rankOf 22 = .ok (.iaload, 1) := by decide +kernel
theorem dX9_rankOf_23 : decode cX9_rankOf 23 = .ok (.iastore, 1) := by decide +kernel
theorem dX9_rankOf_24 : decode cX9_rankOf 24 = .ok (.aload_n 0, 1) := by decide +kernel
theorem dX9_rankOf_25 : decode cX9_rankOf 25 = .ok (.getfield 79, 3) := by decide +kernel
theorem dX9_rankOf_28 : decode cX9_rankOf 28 = .ok (.iconst 2, 1) := by decide +kernel
theorem dX9_rankOf_29 : decode cX9_rankOf 29 = .ok (.aload_n 0, 1) := by decide +kernel
theorem dX9_rankOf_30 : decode cX9_rankOf 30 = .ok (.getfield 259, 3) := by decide +kernel
theorem dX9_rankOf_33 : decode cX9_rankOf 33 = .ok (.aload_n 0, 1) := by decide +kernel
theorem dX9_rankOf_34 : decode cX9_rankOf 34 = .ok (.getfield 116, 3) := by decide +kernel
theorem dX9_rankOf_37 : decode cX9_rankOf 37 = .ok (.iload_n 1, 1) := by decide +kernel
theorem dX9_rankOf_38 : decode cX9_rankOf 38 = .ok (.iaload, 1) := by decide +kernel
theorem dX9_rankOf_39 : decode cX9_rankOf 39 = .ok (.isub, 1) := by decide +kernel
theorem dX9_rankOf_40 : decode cX9_rankOf 40 = .ok (.iastore, 1) := by decide +kernel
theorem dX9_rankOf_41 : decode cX9_rankOf 41 = .ok (.aload_n 0, 1) := by decide +kernel
theorem dX9_rankOf_42 : decode cX9_rankOf 42 = .ok (.getfield 79, 3) := by decide +kernel
theorem dX9_rankOf_45 : decode cX9_rankOf 45 = .ok (.iconst 3, 1) := by decide +kernel
theorem dX9_rankOf_46 : decode cX9_rankOf 46 = .ok (.aload_n 0, 1) := by decide +kernel
theorem dX9_rankOf_47 : decode cX9_rankOf 47 = .ok (.getfield 125, 3) := by decide +kernel
theorem dX9_rankOf_50 : decode cX9_rankOf 50 = .ok (.iload_n 1, 1) := by decide +kernel
theorem dX9_rankOf_51 : decode cX9_rankOf 51 = .ok (.iaload, 1) := by decide +kernel
theorem dX9_rankOf_52 : decode cX9_rankOf 52 = .ok (.iastore, 1) := by decide +kernel
theorem dX9_rankOf_53 : decode cX9_rankOf 53 = .ok (.aload_n 0, 1) := by decide +kernel
theorem dX9_rankOf_54 : decode cX9_rankOf 54 = .ok (.getfield 79, 3) := by decide +kernel
theorem dX9_rankOf_57 : decode cX9_rankOf 57 = .ok (.iconst 4, 1) := by decide +kernel
theorem dX9_rankOf_58 : decode cX9_rankOf 58 = .ok (.aload_n 0, 1) := by decide +kernel
theorem dX9_rankOf_59 : decode cX9_rankOf 59 = .ok (.getfield 107, 3) := by decide +kernel
theorem dX9_rankOf_62 : decode cX9_rankOf 62 = .ok (.iload_n 1, 1) := by decide +kernel
theorem dX9_rankOf_63 : decode cX9_rankOf 63 = .ok (.iaload, 1) := by decide +kernel
theorem dX9_rankOf_64 : decode cX9_rankOf 64 = .ok (.aload_n 0, 1) := by decide +kernel
theorem dX9_rankOf_65 : decode cX9_rankOf 65 = .ok (.getfield 259, 3) := by decide +kernel
theorem dX9_rankOf_68 : decode cX9_rankOf 68 = .ok (.isub, 1) := by decide +kernel
theorem dX9_rankOf_69 : decode cX9_rankOf 69 = .ok (.iastore, 1) := by decide +kernel
theorem dX9_rankOf_70 : decode cX9_rankOf 70 = .ok (.aload_n 0, 1) := by decide +kernel
theorem dX9_rankOf_71 : decode cX9_rankOf 71 = .ok (.getfield 79, 3) := by decide +kernel
theorem dX9_rankOf_74 : decode cX9_rankOf 74 = .ok (.iconst 5, 1) := by decide +kernel
theorem dX9_rankOf_75 : decode cX9_rankOf 75 = .ok (.aload_n 0, 1) := by decide +kernel
theorem dX9_rankOf_76 : decode cX9_rankOf 76 = .ok (.getfield 259, 3) := by decide +kernel
theorem dX9_rankOf_79 : decode cX9_rankOf 79 = .ok (.iastore, 1) := by decide +kernel
theorem dX9_rankOf_80 : decode cX9_rankOf 80 = .ok (.bipush 16, 2) := by decide +kernel
theorem dX9_rankOf_82 : decode cX9_rankOf 82 = .ok (.aload_n 0, 1) := by decide +kernel
theorem dX9_rankOf_83 : decode cX9_rankOf 83 = .ok (.getfield 211, 3) := by decide +kernel
theorem dX9_rankOf_86 : decode cX9_rankOf 86 = .ok (.imul, 1) := by decide +kernel
theorem dX9_rankOf_87 : decode cX9_rankOf 87 = .ok (.istore_n 2, 1) := by decide +kernel
theorem dX9_rankOf_88 : decode cX9_rankOf 88 = .ok (.iload_n 2, 1) := by decide +kernel
theorem dX9_rankOf_89 : decode cX9_rankOf 89 = .ok (.bipush 16, 2) := by decide +kernel
theorem dX9_rankOf_91 : decode cX9_rankOf 91 = .ok (.aload_n 0, 1) := by decide +kernel
theorem dX9_rankOf_92 : decode cX9_rankOf 92 = .ok (.getfield 211, 3) := by decide +kernel
theorem dX9_rankOf_95 : decode cX9_rankOf 95 = .ok (.imul, 1) := by decide +kernel
theorem dX9_rankOf_96 : decode cX9_rankOf 96 = .ok (.aload_n 0, 1) := by decide +kernel
theorem dX9_rankOf_97 : decode cX9_rankOf 97 = .ok (.getfield 55, 3) := by decide +kernel
theorem dX9_rankOf_100 : decode cX9_rankOf 100 = .ok (.aload_n 0, 1) := by decide +kernel
theorem dX9_rankOf_101 : decode cX9_rankOf 101 = .ok (.getfield 211, 3) := by decide +kernel
theorem dX9_rankOf_104 : decode cX9_rankOf 104 = .ok (.iaload, 1) := by decide +kernel
theorem dX9_rankOf_105 : decode cX9_rankOf 105 = .ok (.iadd, 1) := by decide +kernel
theorem dX9_rankOf_106 : decode cX9_rankOf 106 = .ok (.if_icmp .ge 29, 3) := by decide +kernel
theorem dX9_rankOf_109 : decode cX9_rankOf 109 = .ok (.aload_n 0, 1) := by decide +kernel
theorem dX9_rankOf_110 : decode cX9_rankOf 110 = .ok (.aload_n 0, 1) := by decide +kernel
theorem dX9_rankOf_111 : decode cX9_rankOf 111 = .ok (.getfield 61, 3) := by decide +kernel
theorem dX9_rankOf_114 : decode cX9_rankOf 114 = .ok (.iload_n 2, 1) := by decide +kernel
theorem dX9_rankOf_115 : decode cX9_rankOf 115 = .ok (.iaload, 1) := by decide +kernel
theorem dX9_rankOf_116 : decode cX9_rankOf 116 = .ok (.invokevirtual 268, 3) := by decide +kernel
theorem dX9_rankOf_119 : decode cX9_rankOf 119 = .ok (.ifCond .eq 10, 3) := by decide +kernel
theorem dX9_rankOf_122 : decode cX9_rankOf 122 = .ok (.aload_n 0, 1) := by decide +kernel
theorem dX9_rankOf_123 : decode cX9_rankOf 123 = .ok (.getfield 58, 3) := by decide +kernel
theorem dX9_rankOf_126 : decode cX9_rankOf 126 = .ok (.iload_n 2, 1) := by decide +kernel
theorem dX9_rankOf_127 : decode cX9_rankOf 127 = .ok (.iaload, 1) := by decide +kernel
theorem dX9_rankOf_128 : decode cX9_rankOf 128 = .ok (.ireturn, 1) := by decide +kernel
theorem dX9_rankOf_129 : decode cX9_rankOf 129 = .ok (.iinc 2 1, 3) := by decide +kernel
theorem dX9_rankOf_132 : decode cX9_rankOf 132 = .ok (.goto (-44), 3) := by decide +kernel
theorem dX9_rankOf_135 : decode cX9_rankOf 135 = .ok (.iconst 0, 1) := by decide +kernel
theorem dX9_rankOf_136 : decode cX9_rankOf 136 = .ok (.ireturn, 1) := by decide +kernel
set_option maxRecDepth 20000 in
theorem ggX9_findRanks_X9_rankOf : GoodIn wsX9_findRanks wsX9_rankOf := goodIn_r _ [7, 8, 9, 10, 11, 12, 13, 14, 15, 16, 17, 18, 19, 20, 21, 6, 22, 23, 24, 25, 26, 27, 28, 29, 30, 31, 32, 33, 34, 35, 36, 37, 38, 39, 40, 41, 42, 43, 44, 45, 46, 47, 48, 49, 50, 51, 52, 53, 54, 55, 56, 57, 58, 59, 60, 61, 62, 63, 64, 65, 66, 67, 68, 69, 70, 71, 72, 73, 74, 75, 76, 77, 78, 79, 80, 81, 82, 83, 84, 85, 86, 87] (by decide +kernel) (by decide +kernel)
set_option maxRecDepth 20000 in
theorem gX9_findRanks_X9_rankOf : GoodIn wsX9_findRanks (wsV RX9 271 RX9 yX9_rankOf wsX9_rankOf) := goodIn_app (goodIn_of _ (by decide +kernel)) ggX9_findRanks_X9_rankOf
theorem dX9_findRanks_0 : decode cX9_findRanks 0 = .ok (.iconst 0, 1) := by decide +kernel
theorem dX9_findRanks_1 : decode cX9_findRanks 1 = .ok (.istore_n 1, 1) := by decide +kernel
theorem dX9_findRanks_2 : decode cX9_findRanks 2 = .ok (.iload_n 1, 1) := by decide +kernel
theorem dX9_findRanks_3 : decode cX9_findRanks 3 = .ok (.aload_n 0, 1) := by decide +kernel
theorem dX9_findRanks_4 : decode cX9_findRanks 4 = .ok (.getfield 256, 3) := by decide +kernel
theorem dX9_findRanks_7 : decode cX9_findRanks 7 = .ok (.if_icmp .ge 20, 3) := by decide +kernel
theorem dX9_findRanks_10 : decode cX9_findRanks 10 = .ok (.aload_n 0, 1) := by decide +kernel
theorem dX9_findRanks_11 : decode cX9_findRanks 11 = .ok (.getfield 131, 3) := by decide +kernel
theorem dX9_findRanks_14 : decode cX9_findRanks 14 = .ok (.iload_n 1, 1) := by decide +kernel
theorem dX9_findRanks_15 : decode cX9_findRanks 15 = .ok (.aload_n 0, 1) := by decide +kernel
theorem dX9_findRanks_16 : decode cX9_findRanks 16 = .ok (.iload_n 1, 1) := by decide +kernel
theorem dX9_findRanks_17 : decode cX9_findRanks 17 = .ok (.invokevirtual 271, 3) := by decide +kernel
theorem dX9_findRanks_20 : decode cX9_findRanks 20 = .ok (.iastore, 1) := by decide +kernel
theorem dX9_findRanks_21 : decode cX9_findRanks 21 = .ok (.iinc 1 1, 3) := by decide +kernel
theorem dX9_findRanks_24 : decode cX9_findRanks 24 = .ok (.goto (-22), 3) := by decide +kernel
theorem dX9_findRanks_27 : decode cX9_findRanks 27 = .ok (.return_, 1) := by decide +kernel
theorem dX9_isAhead_0 : decode cX9_isAhead 0 = .ok (.aload_n 0, 1) := by decide +kernel
theorem dX9_isAhead_1 : decode cX9_isAhead 1 = .ok (.getfield 131, 3) := by decide +kernel
theorem dX9_isAhead_4 : decode cX9_isAhead 4 = .ok (.iload_n 1, 1) := by decide +kernel
theorem dX9_isAhead_5 : decode cX9_isAhead 5 = .ok (.iaload, 1) := by decide +kernel
theorem dX9_isAhead_6 : decode cX9_isAhead 6 = .ok (.aload_n 0, 1) := by decide +kernel
theorem dX9_isAhead_7 : decode cX9_isAhead 7 = .ok (.getfield 131, 3) := by decide +kernel
theorem dX9_isAhead_10 : decode cX9_isAhead 10 = .ok (.iload_n 2, 1) := by decide +kernel
theorem dX9_isAhead_11 : decode cX9_isAhead 11 = .ok (.iaload, 1) := by decide +kernel
theorem dX9_isAhead_12 : decode cX9_isAhead 12 = .ok (.if_icmp .gt 23, 3) := by decide +kernel
theorem dX9_isAhead_15 : decode cX9_isAhead 15 = .ok (.aload_n 0, 1) := by decide +kernel
theorem dX9_isAhead_16 : decode cX9_isAhead 16 = .ok (.getfield 131, 3) := by decide +kernel
theorem dX9_isAhead_19 : decode cX9_isAhead 19 = .ok (.iload_n 1, 1) := by decide +kernel
theorem dX9_isAhead_20 : decode cX9_isAhead 20 = .ok (.iaload, 1) := by decide +kernel
theorem dX9_isAhead_21 : decode cX9_isAhead 21 = .ok (.aload_n 0, 1) := by decide +kernel
theorem dX9_isAhead_22 : decode cX9_isAhead 22 = .ok (.getfield 131, 3) := by decide +kernel
theorem dX9_isAhead_25 : decode cX9_isAhead 25 = .ok (.iload_n 2, 1) := by decide +kernel
theorem dX9_isAhead_26 : decode cX9_isAhead 26 = .ok (.iaload, 1) := by decide +kernel
theorem dX9_isAhead_27 : decode cX9_isAhead 27 = .ok (.if_icmp .ne 12, 3) := by decide +kernel
theorem dX9_isAhead_30 : decode cX9_isAhead 30 = .ok (.iload_n 1, 1) := by decide +kernel
theorem dX9_isAhead_31 : decode cX9_isAhead 31 = .ok (.iload_n 2, 1) := by decide +kernel
theorem dX9_isAhead_32 : decode cX9_isAhead 32 = .ok (.if_icmp .ge 7, 3) := by decide +kernel
theorem dX9_isAhead_35 : decode cX9_isAhead 35 = .ok (.iconst 1, 1) := by decide +kernel
theorem dX9_isAhead_36 : decode cX9_isAhead 36 = .ok (.goto 4, 3) := by decide +kernel
theorem dX9_isAhead_39 : decode cX9_isAhead 39 = .ok (.iconst 0, 1) := by decide +kernel
theorem dX9_isAhead_40 : decode cX9_isAhead 40 = .ok (.ireturn, 1) := by decide +kernel
set_option maxRecDepth 20000 in
theorem ggX9_deals_X9_findRanks : GoodIn wsX9_deals wsX9_findRanks := goodIn_r _ [8, 9, 10, 11, 12, 13, 7, 14, 15, 16, 17, 2, 18, 19, 20, 21, 22, 23, 24, 25, 26, 27, 28, 29, 30, 31, 70, 71, 72, 73, 74, 75, 76, 77, 78, 79, 80, 81, 82, 83, 84, 85, 86, 87, 88, 89, 90, 91, 92, 93, 94, 95, 96, 97, 98, 99, 100, 101, 102, 103, 104, 105, 106, 107, 108, 109, 110, 111, 112, 113, 114, 115, 116, 117, 118, 119, 120, 121, 122, 123, 124, 125, 126, 127, 128, 129, 130, 131] (by decide +kernel) (by decide +kernel)
set_option maxRecDepth 20000 in
theorem gX9_deals_X9_findRanks : GoodIn wsX9_deals (wsV RX9 274 RX9 yX9_findRanks wsX9_findRanks) := goodIn_app (goodIn_of _ (by decide +kernel)) ggX9_deals_X9_findRanks
set_option maxRecDepth 20000 in
theorem ggX9_deals_X9_firstDealt : GoodIn wsX9_deals wsX9_firstDealt := goodIn_r _ [35, 9, 1, 36, 37, 38, 7, 39, 10, 70, 71, 72, 73, 74, 75, 76, 77, 78, 79, 80, 81, 82, 83, 84, 85, 86, 87, 88, 89, 90, 91, 92, 93, 94, 95, 96, 97, 98, 99, 100, 101, 102, 103, 104, 105, 106, 107, 108, 109, 110, 111, 112, 113, 114, 115, 116, 117, 118, 119, 120, 121, 122, 123, 124, 125, 126, 127, 128, 129, 130, 131] (by decide +kernel) (by decide +kernel)
set_option maxRecDepth 20000 in
theorem gX9_deals_X9_firstDealt : GoodIn wsX9_deals (wsV RX9 277 RX9 yX9_firstDealt wsX9_firstDealt) := goodIn_app (goodIn_of _ (by decide +kernel)) ggX9_deals_X9_firstDealt
set_option maxRecDepth 20000 in
theorem ggX9_deals_X9_isFree : GoodIn wsX9_deals wsX9_isFree := goodIn_r _ [43, 2, 44, 45, 46, 47, 48, 7, 49, 50, 51, 52, 53, 54, 55, 56, 57, 58, 9, 3, 59, 70, 71, 72, 73, 74, 75, 76, 77, 78, 79, 80, 81, 82, 83, 84, 85, 86, 87, 88, 89, 90, 91, 92, 93, 94, 95, 96, 97, 98, 99, 100, 101, 102, 103, 104, 105, 106, 107, 108, 109, 110, 111, 112, 113, 114, 115, 116, 117, 118, 119, 120, 121, 122, 123, 124, 125, 126, 127, 128, 129, 130, 131] (by decide +kernel) (by decide +kernel)
set_option maxRecDepth 20000 in
theorem gX9_deals_X9_isFree : GoodIn wsX9_deals (wsV RX9 280 RX9 yX9_isFree wsX9_isFree) := goodIn_app (goodIn_of _ (by decide +kernel)) ggX9_deals_X9_isFree
set_option maxRecDepth 20000 in
theorem ggX9_deals_X9_suits : GoodIn wsX9_deals wsX9_suits := goodIn_r _ [63, 54, 17, 64, 65, 20, 70, 71, 72, 73, 74, 75, 76, 77, 78, 79, 80, 81, 82, 83, 84, 85, 86, 87, 88, 89, 90, 91, 92, 93, 94, 95, 96, 97, 98, 99, 100, 101, 102, 103, 104, 105, 106, 107, 108, 109, 110, 111, 112, 113, 114, 115, 116, 117, 118, 119, 120, 121, 122, 123, 124, 125, 126, 127, 128, 129, 130, 131] (by decide +kernel) (by decide +kernel)
set_option maxRecDepth 20000 in
theorem gX9_deals_X9_suits : GoodIn wsX9_deals (wsV RX9 283 RX9 yX9_suits wsX9_suits) := goodIn_app (goodIn_of _ (by decide +kernel)) ggX9_deals_X9_suits
set_option maxRecDepth 20000 in
theorem ggX9_deals_X9_books : GoodIn wsX9_deals wsX9_books := goodIn_r _ [69, 3, 59, 70, 71, 72, 73, 74, 75, 76, 77, 78, 79, 80, 81, 82, 83, 84, 85, 86, 87, 88, 89, 90, 91, 92, 93, 94, 95, 96, 97, 98, 99, 100, 101, 102, 103, 104, 105, 106, 107, 108, 109, 110, 111, 112, 113, 114, 115, 116, 117, 118, 119, 120, 121, 122, 123, 124, 125, 126, 127, 128, 129, 130, 131] (by decide +kernel) (by decide +kernel)
set_option maxRecDepth 20000 in
theorem gX9_deals_X9_books : GoodIn wsX9_deals (wsV RX9 287 RX9 yX9_books wsX9_books) := goodIn_app (goodIn_of _ (by decide +kernel)) ggX9_deals_X9_books
theorem dX9_deals_0 : decode cX9_deals 0 = .ok (.aload_n 0, 1) := by decide +kernel
theorem dX9_deals_1 : decode cX9_deals 1 = .ok (.invokevirtual 274, 3) := by decide +kernel
theorem dX9_deals_4 : decode cX9_deals 4 = .ok (.iconst 0, 1) := by decide +kernel
theorem dX9_deals_5 : decode cX9_deals 5 = .ok (.istore_n 1, 1) := by decide +kernel
theorem dX9_deals_6 : decode cX9_deals 6 = .ok (.aload_n 0, 1) := by decide +kernel
theorem dX9_deals_7 : decode cX9_deals 7 = .ok (.invokevirtual 277, 3) := by decide +kernel
theorem dX9_deals_10 : decode cX9_deals 10 = .ok (.istore_n 2, 1) := by decide +kernel
theorem dX9_deals_11 : decode cX9_deals 11 = .ok (.iload_n 2, 1) := by decide +kernel
theorem dX9_deals_12 : decode cX9_deals 12 = .ok (.ifCond .lt 76, 3) := by decide +kernel
theorem dX9_deals_15 : decode cX9_deals 15 = .ok (.aload_n 0, 1) := by decide +kernel
theorem dX9_deals_16 : decode cX9_deals 16 = .ok (.getfield 134, 3) := by decide +kernel
theorem dX9_deals_19 : decode cX9_deals 19 = .ok (.iload_n 2, 1) := by decide +kernel
theorem dX9_deals_20 : decode cX9_deals 20 = .ok (.iconst 0, 1) := by decide +kernel
theorem dX9_deals_21 : decode cX9_deals 21 = .ok (.bastore, 1) := by decide +kernel
theorem dX9_deals_22 : decode cX9_deals 22 = .ok (.bipush 48, 2) := by decide +kernel
theorem dX9_deals_24 : decode cX9_deals 24 = .ok (.aload_n 0, 1) := by decide +kernel
theorem dX9_deals_25 : decode cX9_deals 25 = .ok (.getfield 259, 3) := by decide +kernel
theorem dX9_deals_28 : decode cX9_deals 28 = .ok (.iconst 1, 1) := by decide +kernel
theorem dX9_deals_29 : decode cX9_deals 29 = .ok (.iadd, 1) := by decide +kernel
theorem dX9_deals_30 : decode cX9_deals 30 = .ok (.imul, 1) := by decide +kernel
theorem dX9_deals_31 : decode cX9_deals 31 = .ok (.istore_n 3, 1) := by decide +kernel
theorem dX9_deals_32 : decode cX9_deals 32 = .ok (.iload_n 3, 1) := by decide +kernel
theorem dX9_deals_33 : decode cX9_deals 33 = .ok (.sipush 2880, 3) := by decide +kernel
theorem dX9_deals_36 : decode cX9_deals 36 = .ok (.if_icmp .ge 44, 3) := by decide +kernel
theorem dX9_deals_39 : decode cX9_deals 39 = .ok (.aload_n 0, 1) := by decide +kernel
theorem dX9_deals_40 : decode cX9_deals 40 = .ok (.getfield 119, 3) := by decide +kernel
theorem dX9_deals_43 : decode cX9_deals 43 = .ok (.iload_n 2, 1) := by decide +kernel
theorem dX9_deals_44 : decode cX9_deals 44 = .ok (.iaload, 1) := by decide +kernel
theorem dX9_deals_45 : decode cX9_deals 45 = .ok (.ifCond .ne 35, 3) := by decide +kernel
theorem dX9_deals_48 : decode cX9_deals 48 = .ok (.aload_n 0, 1) := by decide +kernel
theorem dX9_deals_49 : decode cX9_deals 49 = .ok (.iload_n 3, 1) := by decide +kernel
theorem dX9_deals_50 : decode cX9_deals 50 = .ok (.invokevirtual 280, 3) := by decide +kernel
theorem dX9_deals_53 : decode cX9_deals 53 = .ok (.ifCond .eq 21, 3) := by decide +kernel
theorem dX9_deals_56 : decode cX9_deals 56 = .ok (.aload_n 0, 1) := by decide +kernel
theorem dX9_deals_57 : decode cX9_deals 57 = .ok (.iload_n 3, 1) := by decide +kernel
theorem dX9_deals_58 : decode cX9_deals 58 = .ok (.iload_n 2, 1) := by decide +kernel
theorem dX9_deals_59 : decode cX9_deals 59 = .ok (.invokevirtual 283, 3) := by decide +kernel
theorem dX9_deals_62 : decode cX9_deals 62 = .ok (.ifCond .eq 12, 3) := by decide +kernel
theorem dX9_deals_65 : decode cX9_deals 65 = .ok (.aload_n 0, 1) := by decide +kernel
theorem dX9_deals_66 : decode cX9_deals 66 = .ok (.iload_n 2, 1) := by decide +kernel
theorem dX9_deals_67 : decode cX9_deals 67 = .ok (.iload_n 3, 1) := by decide +kernel
end
section
theorem dX9_deals_68 : decode cX9_deals 68 = .ok (.invokevirtual 287, 3) := by decide +kernel
theorem dX9_deals_71 : decode cX9_deals 71 = .ok (.iinc 1 1, 3) := by decide +kernel
theorem dX9_deals_74 : decode cX9_deals 74 = .ok (.iinc 3 1, 3) := by decide +kernel
theorem dX9_deals_77 : decode cX9_deals 77 = .ok (.goto (-45), 3) := by decide +kernel
theorem dX9_deals_80 : decode cX9_deals 80 = .ok (.aload_n 0, 1) := by decide +kernel
theorem dX9_deals_81 : decode cX9_deals 81 = .ok (.invokevirtual 277, 3) := by decide +kernel
theorem dX9_deals_84 : decode cX9_deals 84 = .ok (.istore_n 2, 1) := by decide +kernel
theorem dX9_deals_85 : decode cX9_deals 85 = .ok (.goto (-74), 3) := by decide +kernel
theorem dX9_deals_88 : decode cX9_deals 88 = .ok (.iload_n 1, 1) := by decide +kernel
theorem dX9_deals_89 : decode cX9_deals 89 = .ok (.ireturn, 1) := by decide +kernel
set_option maxRecDepth 20000 in
theorem ggX9_firstDealt_X9_isAhead : GoodIn wsX9_firstDealt wsX9_isAhead := goodIn_r _ [7, 8, 9, 10, 11, 12, 13, 14, 15, 16, 17, 18, 19, 20, 21, 22, 23, 24, 25, 26, 27, 28, 29, 30, 31, 32, 33, 34, 35, 36, 37, 38, 39, 40, 41, 42, 43, 44, 45, 46, 47, 48, 49, 50, 51, 52, 53, 54, 55, 56, 57, 58, 59, 60, 61, 62, 63, 64, 65, 66, 67, 68, 69, 70] (by decide +kernel) (by decide +kernel)
set_option maxRecDepth 20000 in
theorem gX9_firstDealt_X9_isAhead : GoodIn wsX9_firstDealt (wsV RX9 290 RX9 yX9_isAhead wsX9_isAhead) := goodIn_app (goodIn_of _ (by decide +kernel)) ggX9_firstDealt_X9_isAhead
theorem dX9_firstDealt_0 : decode cX9_firstDealt 0 = .ok (.iconst (-1), 1) := by decide +kernel
theorem dX9_firstDealt_1 : decode cX9_firstDealt 1 = .ok (.istore_n 1, 1) := by decide +kernel
theorem dX9_firstDealt_2 : decode cX9_firstDealt 2 = .ok (.iconst 0, 1) := by decide +kernel
theorem dX9_firstDealt_3 : decode cX9_firstDealt 3 = .ok (.istore_n 2, 1) := by decide +kernel
theorem dX9_firstDealt_4 : decode cX9_firstDealt 4 = .ok (.iload_n 2, 1) := by decide +kernel
theorem dX9_firstDealt_5 : decode cX9_firstDealt 5 = .ok (.aload_n 0, 1) := by decide +kernel
theorem dX9_firstDealt_6 : decode cX9_firstDealt 6 = .ok (.getfield 256, 3) := by decide +kernel
theorem dX9_firstDealt_9 : decode cX9_firstDealt 9 = .ok (.if_icmp .ge 37, 3) := by decide +kernel
theorem dX9_firstDealt_12 : decode cX9_firstDealt 12 = .ok (.aload_n 0, 1) := by decide +kernel
theorem dX9_firstDealt_13 : decode cX9_firstDealt 13 = .ok (.getfield 134, 3) := by decide +kernel
theorem dX9_firstDealt_16 : decode cX9_firstDealt 16 = .ok (.iload_n 2, 1) := by decide +kernel
theorem dX9_firstDealt_17 : decode cX9_firstDealt 17 = .ok (.baload, 1) := by decide +kernel
theorem dX9_firstDealt_18 : decode cX9_firstDealt 18 = .ok (.ifCond .eq 20, 3) := by decide +kernel
theorem dX9_firstDealt_21 : decode cX9_firstDealt 21 = .ok (.iload_n 1, 1) := by decide +kernel
theorem dX9_firstDealt_22 : decode cX9_firstDealt 22 = .ok (.ifCond .lt 12, 3) := by decide +kernel
theorem dX9_firstDealt_25 : decode cX9_firstDealt 25 = .ok (.aload_n 0, 1) := by decide +kernel
theorem dX9_firstDealt_26 : decode cX9_firstDealt 26 = .ok (.iload_n 2, 1) := by decide +kernel
theorem dX9_firstDealt_27 : decode cX9_firstDealt 27 = .ok (.iload_n 1, 1) := by decide +kernel
theorem dX9_firstDealt_28 : decode cX9_firstDealt 28 = .ok (.invokevirtual 290, 3) := by decide +kernel
theorem dX9_firstDealt_31 : decode cX9_firstDealt 31 = .ok (.ifCond .eq 7, 3) := by decide +kernel
theorem dX9_firstDealt_34 : decode cX9_firstDealt 34 = .ok (.iload_n 2, 1) := by decide +kernel
theorem dX9_firstDealt_35 : decode cX9_firstDealt 35 = .ok (.goto 4, 3) := by decide +kernel
theorem dX9_firstDealt_38 : decode cX9_firstDealt 38 = .ok (.iload_n 1, 1) := by decide +kernel
theorem dX9_firstDealt_39 : decode cX9_firstDealt 39 = .ok (.istore_n 1, 1) := by decide +kernel
theorem dX9_firstDealt_40 : decode cX9_firstDealt 40 = .ok (.iinc 2 1, 3) := by decide +kernel
theorem dX9_firstDealt_43 : decode cX9_firstDealt 43 = .ok (.goto (-39), 3) := by decide +kernel
theorem dX9_firstDealt_46 : decode cX9_firstDealt 46 = .ok (.iload_n 1, 1) := by decide +kernel
theorem dX9_firstDealt_47 : decode cX9_firstDealt 47 = .ok (.ireturn, 1) := by decide +kernel
theorem dX9_books_0 : decode cX9_books 0 = .ok (.aload_n 0, 1) := by decide +kernel
theorem dX9_books_1 : decode cX9_books 1 = .ok (.getfield 119, 3) := by decide +kernel
theorem dX9_books_4 : decode cX9_books 4 = .ok (.iload_n 1, 1) := by decide +kernel
theorem dX9_books_5 : decode cX9_books 5 = .ok (.iconst 1, 1) := by decide +kernel
theorem dX9_books_6 : decode cX9_books 6 = .ok (.iastore, 1) := by decide +kernel
theorem dX9_books_7 : decode cX9_books 7 = .ok (.aload_n 0, 1) := by decide +kernel
theorem dX9_books_8 : decode cX9_books 8 = .ok (.getfield 122, 3) := by decide +kernel
theorem dX9_books_11 : decode cX9_books 11 = .ok (.iload_n 1, 1) := by decide +kernel
theorem dX9_books_12 : decode cX9_books 12 = .ok (.iload_n 2, 1) := by decide +kernel
theorem dX9_books_13 : decode cX9_books 13 = .ok (.iastore, 1) := by decide +kernel
theorem dX9_books_14 : decode cX9_books 14 = .ok (.return_, 1) := by decide +kernel
theorem dX9_waits_0 : decode cX9_waits 0 = .ok (.aload_n 0, 1) := by decide +kernel
theorem dX9_waits_1 : decode cX9_waits 1 = .ok (.getfield 119, 3) := by decide +kernel
theorem dX9_waits_4 : decode cX9_waits 4 = .ok (.iload_n 1, 1) := by decide +kernel
theorem dX9_waits_5 : decode cX9_waits 5 = .ok (.iconst 0, 1) := by decide +kernel
theorem dX9_waits_6 : decode cX9_waits 6 = .ok (.iastore, 1) := by decide +kernel
theorem dX9_waits_7 : decode cX9_waits 7 = .ok (.aload_n 0, 1) := by decide +kernel
theorem dX9_waits_8 : decode cX9_waits 8 = .ok (.getfield 122, 3) := by decide +kernel
theorem dX9_waits_11 : decode cX9_waits 11 = .ok (.iload_n 1, 1) := by decide +kernel
theorem dX9_waits_12 : decode cX9_waits 12 = .ok (.iconst (-1), 1) := by decide +kernel
theorem dX9_waits_13 : decode cX9_waits 13 = .ok (.iastore, 1) := by decide +kernel
theorem dX9_waits_14 : decode cX9_waits 14 = .ok (.return_, 1) := by decide +kernel
set_option maxRecDepth 20000 in
theorem ggX9_deal_X9_deals : GoodIn wsX9_deal wsX9_deals := goodIn_r _ [9, 3, 10, 4, 11, 12, 13, 8, 14, 2, 15, 16, 17, 18, 19, 20, 21, 22, 23, 24, 25, 26, 27, 28, 29, 30, 31, 32, 33, 34, 35, 36, 37, 38, 39, 40, 41, 42, 43, 44, 45, 46, 47, 48, 49, 50, 51, 52, 53, 54, 55, 56, 57, 58, 59, 60, 61, 62, 63, 64, 65, 66, 67, 68, 69, 70, 71, 72, 73, 74, 75, 76, 77, 78, 79, 80, 81, 82, 83, 84, 85, 86, 87, 88, 89, 90, 91, 92, 93, 94, 95, 96, 97, 98, 99, 100, 101, 102, 103, 104, 105, 106, 107, 108, 109, 110, 111, 112, 113, 114, 115, 116, 117, 118, 119, 120, 121, 122, 123, 124, 125, 126, 127, 128, 129, 130, 131, 132, 133, 134, 135, 136] (by decide +kernel) (by decide +kernel)
set_option maxRecDepth 20000 in
theorem gX9_deal_X9_deals : GoodIn wsX9_deal (wsV RX9 293 RX9 yX9_deals wsX9_deals) := goodIn_app (goodIn_of _ (by decide +kernel)) ggX9_deal_X9_deals
theorem dX9_deal_0 : decode cX9_deal 0 = .ok (.aload_n 0, 1) := by decide +kernel
theorem dX9_deal_1 : decode cX9_deal 1 = .ok (.iconst 0, 1) := by decide +kernel
theorem dX9_deal_2 : decode cX9_deal 2 = .ok (.putfield 1, 3) := by decide +kernel
theorem dX9_deal_5 : decode cX9_deal 5 = .ok (.iconst 0, 1) := by decide +kernel
theorem dX9_deal_6 : decode cX9_deal 6 = .ok (.istore_n 1, 1) := by decide +kernel
theorem dX9_deal_7 : decode cX9_deal 7 = .ok (.iload_n 1, 1) := by decide +kernel
theorem dX9_deal_8 : decode cX9_deal 8 = .ok (.aload_n 0, 1) := by decide +kernel
theorem dX9_deal_9 : decode cX9_deal 9 = .ok (.getfield 256, 3) := by decide +kernel
theorem dX9_deal_12 : decode cX9_deal 12 = .ok (.if_icmp .ge 29, 3) := by decide +kernel
theorem dX9_deal_15 : decode cX9_deal 15 = .ok (.aload_n 0, 1) := by decide +kernel
theorem dX9_deal_16 : decode cX9_deal 16 = .ok (.getfield 134, 3) := by decide +kernel
theorem dX9_deal_19 : decode cX9_deal 19 = .ok (.iload_n 1, 1) := by decide +kernel
theorem dX9_deal_20 : decode cX9_deal 20 = .ok (.aload_n 0, 1) := by decide +kernel
theorem dX9_deal_21 : decode cX9_deal 21 = .ok (.getfield 119, 3) := by decide +kernel
theorem dX9_deal_24 : decode cX9_deal 24 = .ok (.iload_n 1, 1) := by decide +kernel
theorem dX9_deal_25 : decode cX9_deal 25 = .ok (.iaload, 1) := by decide +kernel
theorem dX9_deal_26 : decode cX9_deal 26 = .ok (.ifCond .ne 7, 3) := by decide +kernel
theorem dX9_deal_29 : decode cX9_deal 29 = .ok (.iconst 1, 1) := by decide +kernel
theorem dX9_deal_30 : decode cX9_deal 30 = .ok (.goto 4, 3) := by decide +kernel
theorem dX9_deal_33 : decode cX9_deal 33 = .ok (.iconst 0, 1) := by decide +kernel
theorem dX9_deal_34 : decode cX9_deal 34 = .ok (.bastore, 1) := by decide +kernel
theorem dX9_deal_35 : decode cX9_deal 35 = .ok (.iinc 1 1, 3) := by decide +kernel
theorem dX9_deal_38 : decode cX9_deal 38 = .ok (.goto (-31), 3) := by decide +kernel
theorem dX9_deal_41 : decode cX9_deal 41 = .ok (.aload_n 0, 1) := by decide +kernel
theorem dX9_deal_42 : decode cX9_deal 42 = .ok (.invokevirtual 293, 3) := by decide +kernel
theorem dX9_deal_45 : decode cX9_deal 45 = .ok (.ireturn, 1) := by decide +kernel
set_option maxRecDepth 20000 in
theorem ggX9_movesUp_X9_findRanks : GoodIn wsX9_movesUp wsX9_findRanks := goodIn_r _ [10, 1, 11, 12, 13, 14, 9, 15, 16, 17, 18, 19, 20, 21, 22, 23, 24, 25, 26, 27, 28, 29, 30, 31, 32, 33, 67, 68, 69, 70, 71, 72, 73, 74, 75, 76, 77, 78, 79, 80, 81, 82, 83, 84, 85, 86, 87, 88, 89, 90, 91, 92, 93, 94, 95, 96, 97, 98, 99, 100, 101, 102, 103, 104, 105, 106, 107, 108, 109, 110, 111, 112, 113, 114, 115, 116, 117, 118, 119, 120, 121, 122, 123, 124, 125, 126, 127, 128] (by decide +kernel) (by decide +kernel)
set_option maxRecDepth 20000 in
theorem gX9_movesUp_X9_findRanks : GoodIn wsX9_movesUp (wsV RX9 274 RX9 yX9_findRanks wsX9_findRanks) := goodIn_app (goodIn_of _ (by decide +kernel)) ggX9_movesUp_X9_findRanks
set_option maxRecDepth 20000 in
theorem ggX9_movesUp_X9_isFree : GoodIn wsX9_movesUp wsX9_isFree := goodIn_r _ [37, 19, 38, 39, 40, 41, 42, 9, 43, 44, 45, 46, 47, 48, 49, 50, 51, 52, 1, 2, 3, 67, 68, 69, 70, 71, 72, 73, 74, 75, 76, 77, 78, 79, 80, 81, 82, 83, 84, 85, 86, 87, 88, 89, 90, 91, 92, 93, 94, 95, 96, 97, 98, 99, 100, 101, 102, 103, 104, 105, 106, 107, 108, 109, 110, 111, 112, 113, 114, 115, 116, 117, 118, 119, 120, 121, 122, 123, 124, 125, 126, 127, 128] (by decide +kernel) (by decide +kernel)
set_option maxRecDepth 20000 in
theorem gX9_movesUp_X9_isFree : GoodIn wsX9_movesUp (wsV RX9 280 RX9 yX9_isFree wsX9_isFree) := goodIn_app (goodIn_of _ (by decide +kernel)) ggX9_movesUp_X9_isFree
set_option maxRecDepth 20000 in
theorem ggX9_movesUp_X9_suits : GoodIn wsX9_movesUp wsX9_suits := goodIn_r _ [56, 48, 18, 57, 58, 22, 67, 68, 69, 70, 71, 72, 73, 74, 75, 76, 77, 78, 79, 80, 81, 82, 83, 84, 85, 86, 87, 88, 89, 90, 91, 92, 93, 94, 95, 96, 97, 98, 99, 100, 101, 102, 103, 104, 105, 106, 107, 108, 109, 110, 111, 112, 113, 114, 115, 116, 117, 118, 119, 120, 121, 122, 123, 124, 125, 126, 127, 128] (by decide +kernel) (by decide +kernel)
set_option maxRecDepth 20000 in
theorem gX9_movesUp_X9_suits : GoodIn wsX9_movesUp (wsV RX9 283 RX9 yX9_suits wsX9_suits) := goodIn_app (goodIn_of _ (by decide +kernel)) ggX9_movesUp_X9_suits
set_option maxRecDepth 20000 in
theorem ggX9_movesUp_X9_isAhead : GoodIn wsX9_movesUp wsX9_isAhead := goodIn_r _ [62, 11, 67, 68, 69, 70, 71, 72, 73, 74, 75, 76, 77, 78, 79, 80, 81, 82, 83, 84, 85, 86, 87, 88, 89, 90, 91, 92, 93, 94, 95, 96, 97, 98, 99, 100, 101, 102, 103, 104, 105, 106, 107, 108, 109, 110, 111, 112, 113, 114, 115, 116, 117, 118, 119, 120, 121, 122, 123, 124, 125, 126, 127, 128] (by decide +kernel) (by decide +kernel)
set_option maxRecDepth 20000 in
theorem gX9_movesUp_X9_isAhead : GoodIn wsX9_movesUp (wsV RX9 290 RX9 yX9_isAhead wsX9_isAhead) := goodIn_app (goodIn_of _ (by decide +kernel)) ggX9_movesUp_X9_isAhead
set_option maxRecDepth 20000 in
theorem ggX9_movesUp_X9_books : GoodIn wsX9_movesUp wsX9_books := goodIn_r _ [66, 2, 3, 67, 68, 69, 70, 71, 72, 73, 74, 75, 76, 77, 78, 79, 80, 81, 82, 83, 84, 85, 86, 87, 88, 89, 90, 91, 92, 93, 94, 95, 96, 97, 98, 99, 100, 101, 102, 103, 104, 105, 106, 107, 108, 109, 110, 111, 112, 113, 114, 115, 116, 117, 118, 119, 120, 121, 122, 123, 124, 125, 126, 127, 128] (by decide +kernel) (by decide +kernel)
set_option maxRecDepth 20000 in
theorem gX9_movesUp_X9_books : GoodIn wsX9_movesUp (wsV RX9 287 RX9 yX9_books wsX9_books) := goodIn_app (goodIn_of _ (by decide +kernel)) ggX9_movesUp_X9_books
theorem dX9_movesUp_0 : decode cX9_movesUp 0 = .ok (.aload_n 0, 1) := by decide +kernel
theorem dX9_movesUp_1 : decode cX9_movesUp 1 = .ok (.invokevirtual 274, 3) := by decide +kernel
theorem dX9_movesUp_4 : decode cX9_movesUp 4 = .ok (.iconst 0, 1) := by decide +kernel
theorem dX9_movesUp_5 : decode cX9_movesUp 5 = .ok (.istore_n 2, 1) := by decide +kernel
theorem dX9_movesUp_6 : decode cX9_movesUp 6 = .ok (.iload_n 1, 1) := by decide +kernel
theorem dX9_movesUp_7 : decode cX9_movesUp 7 = .ok (.istore_n 3, 1) := by decide +kernel
theorem dX9_movesUp_8 : decode cX9_movesUp 8 = .ok (.iload_n 3, 1) := by decide +kernel
theorem dX9_movesUp_9 : decode cX9_movesUp 9 = .ok (.ifCond .lt 149, 3) := by decide +kernel
theorem dX9_movesUp_12 : decode cX9_movesUp 12 = .ok (.iconst (-1), 1) := by decide +kernel
theorem dX9_movesUp_13 : decode cX9_movesUp 13 = .ok (.istore 4, 2) := by decide +kernel
theorem dX9_movesUp_15 : decode cX9_movesUp 15 = .ok (.iconst 0, 1) := by decide +kernel
theorem dX9_movesUp_16 : decode cX9_movesUp 16 = .ok (.istore 5, 2) := by decide +kernel
theorem dX9_movesUp_18 : decode cX9_movesUp 18 = .ok (.iload 5, 2) := by decide +kernel
theorem dX9_movesUp_20 : decode cX9_movesUp 20 = .ok (.aload_n 0, 1) := by decide +kernel
theorem dX9_movesUp_21 : decode cX9_movesUp 21 = .ok (.getfield 256, 3) := by decide +kernel
theorem dX9_movesUp_24 : decode cX9_movesUp 24 = .ok (.if_icmp .ge 84, 3) := by decide +kernel
theorem dX9_movesUp_27 : decode cX9_movesUp 27 = .ok (.aload_n 0, 1) := by decide +kernel
theorem dX9_movesUp_28 : decode cX9_movesUp 28 = .ok (.iload_n 3, 1) := by decide +kernel
theorem dX9_movesUp_29 : decode cX9_movesUp 29 = .ok (.invokevirtual 280, 3) := by decide +kernel
theorem dX9_movesUp_32 : decode cX9_movesUp 32 = .ok (.ifCond .eq 76, 3) := by decide +kernel
theorem dX9_movesUp_35 : decode cX9_movesUp 35 = .ok (.aload_n 0, 1) := by decide +kernel
theorem dX9_movesUp_36 : decode cX9_movesUp 36 = .ok (.getfield 119, 3) := by decide +kernel
theorem dX9_movesUp_39 : decode cX9_movesUp 39 = .ok (.iload 5, 2) := by decide +kernel
theorem dX9_movesUp_41 : decode cX9_movesUp 41 = .ok (.iaload, 1) := by decide +kernel
theorem dX9_movesUp_42 : decode cX9_movesUp 42 = .ok (.iconst 1, 1) := by decide +kernel
theorem dX9_movesUp_43 : decode cX9_movesUp 43 = .ok (.if_icmp .ne 59, 3) := by decide +kernel
theorem dX9_movesUp_46 : decode cX9_movesUp 46 = .ok (.aload_n 0, 1) := by decide +kernel
theorem dX9_movesUp_47 : decode cX9_movesUp 47 = .ok (.getfield 122, 3) := by decide +kernel
theorem dX9_movesUp_50 : decode cX9_movesUp 50 = .ok (.iload 5, 2) := by decide +kernel
theorem dX9_movesUp_52 : decode cX9_movesUp 52 = .ok (.iaload, 1) := by decide +kernel
theorem dX9_movesUp_53 : decode cX9_movesUp 53 = .ok (.iload_n 3, 1) := by decide +kernel
theorem dX9_movesUp_54 : decode cX9_movesUp 54 = .ok (.if_icmp .le 48, 3) := by decide +kernel
theorem dX9_movesUp_57 : decode cX9_movesUp 57 = .ok (.aload_n 0, 1) := by decide +kernel
theorem dX9_movesUp_58 : decode cX9_movesUp 58 = .ok (.getfield 113, 3) := by decide +kernel
theorem dX9_movesUp_61 : decode cX9_movesUp 61 = .ok (.iload 5, 2) := by decide +kernel
theorem dX9_movesUp_63 : decode cX9_movesUp 63 = .ok (.baload, 1) := by decide +kernel
theorem dX9_movesUp_64 : decode cX9_movesUp 64 = .ok (.ifCond .eq 38, 3) := by decide +kernel
theorem dX9_movesUp_67 : decode cX9_movesUp 67 = .ok (.aload_n 0, 1) := by decide +kernel
theorem dX9_movesUp_68 : decode cX9_movesUp 68 = .ok (.iload_n 3, 1) := by decide +kernel
theorem dX9_movesUp_69 : decode cX9_movesUp 69 = .ok (.iload 5, 2) := by decide +kernel
theorem dX9_movesUp_71 : decode cX9_movesUp 71 = .ok (.invokevirtual 283, 3) := by decide +kernel
theorem dX9_movesUp_74 : decode cX9_movesUp 74 = .ok (.ifCond .eq 28, 3) := by decide +kernel
theorem dX9_movesUp_77 : decode cX9_movesUp 77 = .ok (.iload 4, 2) := by decide +kernel
theorem dX9_movesUp_79 : decode cX9_movesUp 79 = .ok (.ifCond .lt 14, 3) := by decide +kernel
theorem dX9_movesUp_82 : decode cX9_movesUp 82 = .ok (.aload_n 0, 1) := by decide +kernel
theorem dX9_movesUp_83 : decode cX9_movesUp 83 = .ok (.iload 5, 2) := by decide +kernel
theorem dX9_movesUp_85 : decode cX9_movesUp 85 = .ok (.iload 4, 2) := by decide +kernel
theorem dX9_movesUp_87 : decode cX9_movesUp 87 = .ok (.invokevirtual 290, 3) := by decide +kernel
theorem dX9_movesUp_90 : decode cX9_movesUp 90 = .ok (.ifCond .eq 8, 3) := by decide +kernel
theorem dX9_movesUp_93 : decode cX9_movesUp 93 = .ok (.iload 5, 2) := by decide +kernel
theorem dX9_movesUp_95 : decode cX9_movesUp 95 = .ok (.goto 5, 3) := by decide +kernel
theorem dX9_movesUp_98 : decode cX9_movesUp 98 = .ok (.iload 4, 2) := by decide +kernel
theorem dX9_movesUp_100 : decode cX9_movesUp 100 = .ok (.istore 4, 2) := by decide +kernel
theorem dX9_movesUp_102 : decode cX9_movesUp 102 = .ok (.iinc 5 1, 3) := by decide +kernel
theorem dX9_movesUp_105 : decode cX9_movesUp 105 = .ok (.goto (-87), 3) := by decide +kernel
theorem dX9_movesUp_108 : decode cX9_movesUp 108 = .ok (.iload 4, 2) := by decide +kernel
theorem dX9_movesUp_110 : decode cX9_movesUp 110 = .ok (.ifCond .ge 7, 3) := by decide +kernel
theorem dX9_movesUp_113 : decode cX9_movesUp 113 = .ok (.iconst (-1), 1) := by decide +kernel
theorem dX9_movesUp_114 : decode cX9_movesUp 114 = .ok (.goto 10, 3) := by decide +kernel
theorem dX9_movesUp_117 : decode cX9_movesUp 117 = .ok (.aload_n 0, 1) := by decide +kernel
theorem dX9_movesUp_118 : decode cX9_movesUp 118 = .ok (.getfield 122, 3) := by decide +kernel
theorem dX9_movesUp_121 : decode cX9_movesUp 121 = .ok (.iload 4, 2) := by decide +kernel
theorem dX9_movesUp_123 : decode cX9_movesUp 123 = .ok (.iaload, 1) := by decide +kernel
theorem dX9_movesUp_124 : decode cX9_movesUp 124 = .ok (.istore 5, 2) := by decide +kernel
theorem dX9_movesUp_126 : decode cX9_movesUp 126 = .ok (.iload 4, 2) := by decide +kernel
theorem dX9_movesUp_128 : decode cX9_movesUp 128 = .ok (.ifCond .lt 24, 3) := by decide +kernel
theorem dX9_movesUp_131 : decode cX9_movesUp 131 = .ok (.aload_n 0, 1) := by decide +kernel
theorem dX9_movesUp_132 : decode cX9_movesUp 132 = .ok (.iload 4, 2) := by decide +kernel
theorem dX9_movesUp_134 : decode cX9_movesUp 134 = .ok (.iload_n 3, 1) := by decide +kernel
theorem dX9_movesUp_135 : decode cX9_movesUp 135 = .ok (.invokevirtual 287, 3) := by decide +kernel
theorem dX9_movesUp_138 : decode cX9_movesUp 138 = .ok (.aload_n 0, 1) := by decide +kernel
theorem dX9_movesUp_139 : decode cX9_movesUp 139 = .ok (.getfield 128, 3) := by decide +kernel
theorem dX9_movesUp_142 : decode cX9_movesUp 142 = .ok (.iload 4, 2) := by decide +kernel
theorem dX9_movesUp_144 : decode cX9_movesUp 144 = .ok (.dup2, 1) := by decide +kernel
theorem dX9_movesUp_145 : decode cX9_movesUp 145 = .ok (.iaload, 1) := by decide +kernel
theorem dX9_movesUp_146 : decode cX9_movesUp 146 = .ok (.iconst 1, 1) := by decide +kernel
theorem dX9_movesUp_147 : decode cX9_movesUp 147 = .ok (.iadd, 1) := by decide +kernel
theorem dX9_movesUp_148 : decode cX9_movesUp 148 = .ok (.iastore, 1) := by decide +kernel
theorem dX9_movesUp_149 : decode cX9_movesUp 149 = .ok (.iinc 2 1, 3) := by decide +kernel
theorem dX9_movesUp_152 : decode cX9_movesUp 152 = .ok (.iload 5, 2) := by decide +kernel
theorem dX9_movesUp_154 : decode cX9_movesUp 154 = .ok (.istore_n 3, 1) := by decide +kernel
theorem dX9_movesUp_155 : decode cX9_movesUp 155 = .ok (.goto (-147), 3) := by decide +kernel
theorem dX9_movesUp_158 : decode cX9_movesUp 158 = .ok (.iload_n 2, 1) := by decide +kernel
theorem dX9_movesUp_159 : decode cX9_movesUp 159 = .ok (.ireturn, 1) := by decide +kernel
set_option maxRecDepth 20000 in
theorem ggX9_cancel_X9_isLearner : GoodIn wsX9_cancel wsX9_isLearner := goodIn_r _ [8, 9, 80, 81, 82, 83, 84, 85, 86, 87, 88, 89, 90, 91, 92, 93, 94, 95, 96, 97, 98, 99, 100, 101, 102, 103, 104, 105, 106, 107, 108, 109, 110, 111, 112, 113, 114, 115, 116, 117, 118, 119, 120, 121, 122, 123, 124, 125, 126, 127, 128, 129, 130, 131, 132, 133, 134, 135, 136, 137, 138, 139, 140, 141] (by decide +kernel) (by decide +kernel)
set_option maxRecDepth 20000 in
theorem gX9_cancel_X9_isLearner : GoodIn wsX9_cancel (wsV RX9 296 RX9 yX9_isLearner wsX9_isLearner) := goodIn_app (goodIn_of _ (by decide +kernel)) ggX9_cancel_X9_isLearner
set_option maxRecDepth 20000 in
theorem ggX9_cancel_X9_waits : GoodIn wsX9_cancel wsX9_waits := goodIn_r _ [13, 2, 3, 80, 81, 82, 83, 84, 85, 86, 87, 88, 89, 90, 91, 92, 93, 94, 95, 96, 97, 98, 99, 100, 101, 102, 103, 104, 105, 106, 107, 108, 109, 110, 111, 112, 113, 114, 115, 116, 117, 118, 119, 120, 121, 122, 123, 124, 125, 126, 127, 128, 129, 130, 131, 132, 133, 134, 135, 136, 137, 138, 139, 140, 141] (by decide +kernel) (by decide +kernel)
set_option maxRecDepth 20000 in
theorem gX9_cancel_X9_waits : GoodIn wsX9_cancel (wsV RX9 299 RX9 yX9_waits wsX9_waits) := goodIn_app (goodIn_of _ (by decide +kernel)) ggX9_cancel_X9_waits
set_option maxRecDepth 20000 in
theorem ggX9_cancel_X9_movesUp : GoodIn wsX9_cancel wsX9_movesUp := goodIn_r _ [17, 9, 2, 3, 18, 19, 20, 21, 22, 7, 23, 24, 25, 26, 27, 28, 29, 30, 31, 32, 33, 34, 35, 36, 37, 38, 39, 40, 41, 42, 43, 44, 45, 46, 47, 48, 49, 50, 51, 52, 53, 54, 55, 56, 57, 58, 59, 60, 61, 62, 63, 64, 65, 66, 67, 68, 69, 70, 71, 72, 73, 74, 75, 76, 77, 78, 79, 80, 81, 82, 83, 84, 85, 86, 87, 88, 89, 90, 91, 92, 93, 94, 95, 96, 97, 98, 99, 100, 101, 102, 103, 104, 105, 106, 107, 108, 109, 110, 111, 112, 113, 114, 115, 116, 117, 118, 119, 120, 121, 122, 123, 124, 125, 126, 127, 128, 129, 130, 131, 132, 133, 134, 135, 136, 137, 138, 139, 140, 141] (by decide +kernel) (by decide +kernel)
set_option maxRecDepth 20000 in
theorem gX9_cancel_X9_movesUp : GoodIn wsX9_cancel (wsV RX9 302 RX9 yX9_movesUp wsX9_movesUp) := goodIn_app (goodIn_of _ (by decide +kernel)) ggX9_cancel_X9_movesUp
theorem dX9_cancel_0 : decode cX9_cancel 0 = .ok (.aload_n 0, 1) := by decide +kernel
theorem dX9_cancel_1 : decode cX9_cancel 1 = .ok (.iconst 0, 1) := by decide +kernel
theorem dX9_cancel_2 : decode cX9_cancel 2 = .ok (.putfield 1, 3) := by decide +kernel
theorem dX9_cancel_5 : decode cX9_cancel 5 = .ok (.aload_n 0, 1) := by decide +kernel
theorem dX9_cancel_6 : decode cX9_cancel 6 = .ok (.iload_n 1, 1) := by decide +kernel
theorem dX9_cancel_7 : decode cX9_cancel 7 = .ok (.invokevirtual 296, 3) := by decide +kernel
theorem dX9_cancel_10 : decode cX9_cancel 10 = .ok (.ifCond .eq 13, 3) := by decide +kernel
theorem dX9_cancel_13 : decode cX9_cancel 13 = .ok (.aload_n 0, 1) := by decide +kernel
theorem dX9_cancel_14 : decode cX9_cancel 14 = .ok (.getfield 119, 3) := by decide +kernel
theorem dX9_cancel_17 : decode cX9_cancel 17 = .ok (.iload_n 1, 1) := by decide +kernel
theorem dX9_cancel_18 : decode cX9_cancel 18 = .ok (.iaload, 1) := by decide +kernel
theorem dX9_cancel_19 : decode cX9_cancel 19 = .ok (.iconst 1, 1) := by decide +kernel
theorem dX9_cancel_20 : decode cX9_cancel 20 = .ok (.if_icmp .eq 5, 3) := by decide +kernel
theorem dX9_cancel_23 : decode cX9_cancel 23 = .ok (.iconst (-1), 1) := by decide +kernel
theorem dX9_cancel_24 : decode cX9_cancel 24 = .ok (.ireturn, 1) := by decide +kernel
theorem dX9_cancel_25 : decode cX9_cancel 25 = .ok (.aload_n 0, 1) := by decide +kernel
theorem dX9_cancel_26 : decode cX9_cancel 26 = .ok (.getfield 122, 3) := by decide +kernel
theorem dX9_cancel_29 : decode cX9_cancel 29 = .ok (.iload_n 1, 1) := by decide +kernel
theorem dX9_cancel_30 : decode cX9_cancel 30 = .ok (.iaload, 1) := by decide +kernel
theorem dX9_cancel_31 : decode cX9_cancel 31 = .ok (.istore_n 2, 1) := by decide +kernel
theorem dX9_cancel_32 : decode cX9_cancel 32 = .ok (.aload_n 0, 1) := by decide +kernel
theorem dX9_cancel_33 : decode cX9_cancel 33 = .ok (.iload_n 1, 1) := by decide +kernel
theorem dX9_cancel_34 : decode cX9_cancel 34 = .ok (.invokevirtual 299, 3) := by decide +kernel
theorem dX9_cancel_37 : decode cX9_cancel 37 = .ok (.aload_n 0, 1) := by decide +kernel
theorem dX9_cancel_38 : decode cX9_cancel 38 = .ok (.iload_n 2, 1) := by decide +kernel
theorem dX9_cancel_39 : decode cX9_cancel 39 = .ok (.invokevirtual 302, 3) := by decide +kernel
theorem dX9_cancel_42 : decode cX9_cancel 42 = .ok (.ireturn, 1) := by decide +kernel
set_option maxRecDepth 20000 in
theorem ggX9_leave_X9_isLearner : GoodIn wsX9_leave wsX9_isLearner := goodIn_r _ [8, 9, 76, 77, 78, 79, 80, 81, 82, 83, 84, 85, 86, 87, 88, 89, 90, 91, 92, 93, 94, 95, 96, 97, 98, 99, 100, 101, 102, 103, 104, 105, 106, 107, 108, 109, 110, 111, 112, 113, 114, 115, 116, 117, 118, 119, 120, 121, 122, 123, 124, 125, 126, 127, 128, 129, 130, 131, 132, 133, 134, 135, 136, 137] (by decide +kernel) (by decide +kernel)
set_option maxRecDepth 20000 in
theorem gX9_leave_X9_isLearner : GoodIn wsX9_leave (wsV RX9 296 RX9 yX9_isLearner wsX9_isLearner) := goodIn_app (goodIn_of _ (by decide +kernel)) ggX9_leave_X9_isLearner
set_option maxRecDepth 20000 in
theorem ggX9_leave_X9_movesUp : GoodIn wsX9_leave wsX9_movesUp := goodIn_r _ [13, 9, 2, 3, 14, 15, 16, 17, 18, 7, 19, 20, 21, 22, 23, 24, 25, 26, 27, 28, 29, 30, 31, 32, 33, 34, 35, 36, 37, 38, 39, 40, 41, 42, 43, 44, 45, 46, 47, 48, 49, 50, 51, 52, 53, 54, 55, 56, 57, 58, 59, 60, 61, 62, 63, 64, 65, 66, 67, 68, 69, 70, 71, 72, 73, 74, 75, 76, 77, 78, 79, 80, 81, 82, 83, 84, 85, 86, 87, 88, 89, 90, 91, 92, 93, 94, 95, 96, 97, 98, 99, 100, 101, 102, 103, 104, 105, 106, 107, 108, 109, 110, 111, 112, 113, 114, 115, 116, 117, 118, 119, 120, 121, 122, 123, 124, 125, 126, 127, 128, 129, 130, 131, 132, 133, 134, 135, 136, 137] (by decide +kernel) (by decide +kernel)
set_option maxRecDepth 20000 in
theorem gX9_leave_X9_movesUp : GoodIn wsX9_leave (wsV RX9 302 RX9 yX9_movesUp wsX9_movesUp) := goodIn_app (goodIn_of _ (by decide +kernel)) ggX9_leave_X9_movesUp
theorem dX9_leave_0 : decode cX9_leave 0 = .ok (.aload_n 0, 1) := by decide +kernel
theorem dX9_leave_1 : decode cX9_leave 1 = .ok (.iconst 0, 1) := by decide +kernel
theorem dX9_leave_2 : decode cX9_leave 2 = .ok (.putfield 1, 3) := by decide +kernel
theorem dX9_leave_5 : decode cX9_leave 5 = .ok (.aload_n 0, 1) := by decide +kernel
theorem dX9_leave_6 : decode cX9_leave 6 = .ok (.iload_n 1, 1) := by decide +kernel
theorem dX9_leave_7 : decode cX9_leave 7 = .ok (.invokevirtual 296, 3) := by decide +kernel
theorem dX9_leave_10 : decode cX9_leave 10 = .ok (.ifCond .eq 13, 3) := by decide +kernel
theorem dX9_leave_13 : decode cX9_leave 13 = .ok (.aload_n 0, 1) := by decide +kernel
theorem dX9_leave_14 : decode cX9_leave 14 = .ok (.getfield 119, 3) := by decide +kernel
theorem dX9_leave_17 : decode cX9_leave 17 = .ok (.iload_n 1, 1) := by decide +kernel
theorem dX9_leave_18 : decode cX9_leave 18 = .ok (.iaload, 1) := by decide +kernel
theorem dX9_leave_19 : decode cX9_leave 19 = .ok (.iconst 1, 1) := by decide +kernel
theorem dX9_leave_20 : decode cX9_leave 20 = .ok (.if_icmp .le 5, 3) := by decide +kernel
theorem dX9_leave_23 : decode cX9_leave 23 = .ok (.iconst 0, 1) := by decide +kernel
theorem dX9_leave_24 : decode cX9_leave 24 = .ok (.ireturn, 1) := by decide +kernel
theorem dX9_leave_25 : decode cX9_leave 25 = .ok (.aload_n 0, 1) := by decide +kernel
theorem dX9_leave_26 : decode cX9_leave 26 = .ok (.getfield 122, 3) := by decide +kernel
theorem dX9_leave_29 : decode cX9_leave 29 = .ok (.iload_n 1, 1) := by decide +kernel
theorem dX9_leave_30 : decode cX9_leave 30 = .ok (.iaload, 1) := by decide +kernel
theorem dX9_leave_31 : decode cX9_leave 31 = .ok (.istore_n 2, 1) := by decide +kernel
theorem dX9_leave_32 : decode cX9_leave 32 = .ok (.aload_n 0, 1) := by decide +kernel
theorem dX9_leave_33 : decode cX9_leave 33 = .ok (.getfield 119, 3) := by decide +kernel
theorem dX9_leave_36 : decode cX9_leave 36 = .ok (.iload_n 1, 1) := by decide +kernel
theorem dX9_leave_37 : decode cX9_leave 37 = .ok (.iconst 3, 1) := by decide +kernel
theorem dX9_leave_38 : decode cX9_leave 38 = .ok (.iastore, 1) := by decide +kernel
theorem dX9_leave_39 : decode cX9_leave 39 = .ok (.aload_n 0, 1) := by decide +kernel
theorem dX9_leave_40 : decode cX9_leave 40 = .ok (.getfield 122, 3) := by decide +kernel
theorem dX9_leave_43 : decode cX9_leave 43 = .ok (.iload_n 1, 1) := by decide +kernel
theorem dX9_leave_44 : decode cX9_leave 44 = .ok (.iconst (-1), 1) := by decide +kernel
theorem dX9_leave_45 : decode cX9_leave 45 = .ok (.iastore, 1) := by decide +kernel
theorem dX9_leave_46 : decode cX9_leave 46 = .ok (.iload_n 2, 1) := by decide +kernel
theorem dX9_leave_47 : decode cX9_leave 47 = .ok (.ifCond .lt 9, 3) := by decide +kernel
theorem dX9_leave_50 : decode cX9_leave 50 = .ok (.aload_n 0, 1) := by decide +kernel
theorem dX9_leave_51 : decode cX9_leave 51 = .ok (.iload_n 2, 1) := by decide +kernel
theorem dX9_leave_52 : decode cX9_leave 52 = .ok (.invokevirtual 302, 3) := by decide +kernel
theorem dX9_leave_55 : decode cX9_leave 55 = .ok (.istore_n 3, 1) := by decide +kernel
theorem dX9_leave_56 : decode cX9_leave 56 = .ok (.iconst 1, 1) := by decide +kernel
theorem dX9_leave_57 : decode cX9_leave 57 = .ok (.ireturn, 1) := by decide +kernel
set_option maxRecDepth 20000 in
theorem ggX9_place_X9_isThere : GoodIn wsX9_place wsX9_isThere := goodIn_r _ [13, 14, 15, 16, 12, 17, 4, 22, 23, 24, 25, 26, 27, 28, 29, 30, 31, 32, 33, 34, 35, 36, 37, 38, 39, 40, 41, 42, 43, 44, 45, 46, 47, 48, 49, 50, 51, 52, 53, 54, 55, 56, 57, 58, 59, 60, 61, 62, 63, 64, 65, 66, 67, 68, 69, 70, 71, 72, 73, 74, 75, 76, 77, 78, 79, 80, 81, 82, 83] (by decide +kernel) (by decide +kernel)
set_option maxRecDepth 20000 in
theorem gX9_place_X9_isThere : GoodIn wsX9_place (wsV RX9 262 RX9 yX9_isThere wsX9_isThere) := goodIn_app (goodIn_of _ (by decide +kernel)) ggX9_place_X9_isThere
set_option maxRecDepth 20000 in
theorem ggX9_place_X9_waits : GoodIn wsX9_place wsX9_waits := goodIn_r _ [21, 6, 7, 22, 23, 24, 25, 26, 27, 28, 29, 30, 31, 32, 33, 34, 35, 36, 37, 38, 39, 40, 41, 42, 43, 44, 45, 46, 47, 48, 49, 50, 51, 52, 53, 54, 55, 56, 57, 58, 59, 60, 61, 62, 63, 64, 65, 66, 67, 68, 69, 70, 71, 72, 73, 74, 75, 76, 77, 78, 79, 80, 81, 82, 83] (by decide +kernel) (by decide +kernel)
set_option maxRecDepth 20000 in
theorem gX9_place_X9_waits : GoodIn wsX9_place (wsV RX9 299 RX9 yX9_waits wsX9_waits) := goodIn_app (goodIn_of _ (by decide +kernel)) ggX9_place_X9_waits
theorem dX9_place_0 : decode cX9_place 0 = .ok (.aload_n 0, 1) := by decide +kernel
theorem dX9_place_1 : decode cX9_place 1 = .ok (.iconst 0, 1) := by decide +kernel
theorem dX9_place_2 : decode cX9_place 2 = .ok (.putfield 1, 3) := by decide +kernel
theorem dX9_place_5 : decode cX9_place 5 = .ok (.iload_n 1, 1) := by decide +kernel
theorem dX9_place_6 : decode cX9_place 6 = .ok (.ifCond .lt 42, 3) := by decide +kernel
theorem dX9_place_9 : decode cX9_place 9 = .ok (.iload_n 1, 1) := by decide +kernel
theorem dX9_place_10 : decode cX9_place 10 = .ok (.aload_n 0, 1) := by decide +kernel
theorem dX9_place_11 : decode cX9_place 11 = .ok (.getfield 249, 3) := by decide +kernel
theorem dX9_place_14 : decode cX9_place 14 = .ok (.if_icmp .ge 34, 3) := by decide +kernel
theorem dX9_place_17 : decode cX9_place 17 = .ok (.iload_n 2, 1) := by decide +kernel
theorem dX9_place_18 : decode cX9_place 18 = .ok (.iconst (-1), 1) := by decide +kernel
theorem dX9_place_19 : decode cX9_place 19 = .ok (.if_icmp .lt 29, 3) := by decide +kernel
theorem dX9_place_22 : decode cX9_place 22 = .ok (.iload_n 2, 1) := by decide +kernel
theorem dX9_place_23 : decode cX9_place 23 = .ok (.iconst 5, 1) := by decide +kernel
theorem dX9_place_24 : decode cX9_place 24 = .ok (.if_icmp .gt 24, 3) := by decide +kernel
theorem dX9_place_27 : decode cX9_place 27 = .ok (.iload_n 3, 1) := by decide +kernel
theorem dX9_place_28 : decode cX9_place 28 = .ok (.aload_n 0, 1) := by decide +kernel
theorem dX9_place_29 : decode cX9_place 29 = .ok (.getfield 259, 3) := by decide +kernel
theorem dX9_place_32 : decode cX9_place 32 = .ok (.if_icmp .le 16, 3) := by decide +kernel
theorem dX9_place_35 : decode cX9_place 35 = .ok (.iload 4, 2) := by decide +kernel
theorem dX9_place_37 : decode cX9_place 37 = .ok (.iload_n 3, 1) := by decide +kernel
theorem dX9_place_38 : decode cX9_place 38 = .ok (.if_icmp .lt 10, 3) := by decide +kernel
theorem dX9_place_41 : decode cX9_place 41 = .ok (.iload 4, 2) := by decide +kernel
theorem dX9_place_43 : decode cX9_place 43 = .ok (.bipush 59, 2) := by decide +kernel
theorem dX9_place_45 : decode cX9_place 45 = .ok (.if_icmp .le 5, 3) := by decide +kernel
theorem dX9_place_48 : decode cX9_place 48 = .ok (.iconst (-1), 1) := by decide +kernel
theorem dX9_place_49 : decode cX9_place 49 = .ok (.ireturn, 1) := by decide +kernel
theorem dX9_place_50 : decode cX9_place 50 = .ok (.iload_n 3, 1) := by decide +kernel
theorem dX9_place_51 : decode cX9_place 51 = .ok (.istore 5, 2) := by decide +kernel
theorem dX9_place_53 : decode cX9_place 53 = .ok (.iload 5, 2) := by decide +kernel
theorem dX9_place_55 : decode cX9_place 55 = .ok (.iload 4, 2) := by decide +kernel
theorem dX9_place_57 : decode cX9_place 57 = .ok (.if_icmp .gt 22, 3) := by decide +kernel
theorem dX9_place_60 : decode cX9_place 60 = .ok (.aload_n 0, 1) := by decide +kernel
theorem dX9_place_61 : decode cX9_place 61 = .ok (.getfield 85, 3) := by decide +kernel
theorem dX9_place_64 : decode cX9_place 64 = .ok (.bipush 60, 2) := by decide +kernel
theorem dX9_place_66 : decode cX9_place 66 = .ok (.iload_n 1, 1) := by decide +kernel
theorem dX9_place_67 : decode cX9_place 67 = .ok (.imul, 1) := by decide +kernel
theorem dX9_place_68 : decode cX9_place 68 = .ok (.iload 5, 2) := by decide +kernel
theorem dX9_place_70 : decode cX9_place 70 = .ok (.iadd, 1) := by decide +kernel
theorem dX9_place_71 : decode cX9_place 71 = .ok (.iload_n 2, 1) := by decide +kernel
theorem dX9_place_72 : decode cX9_place 72 = .ok (.iastore, 1) := by decide +kernel
theorem dX9_place_73 : decode cX9_place 73 = .ok (.iinc 5 1, 3) := by decide +kernel
theorem dX9_place_76 : decode cX9_place 76 = .ok (.goto (-23), 3) := by decide +kernel
theorem dX9_place_79 : decode cX9_place 79 = .ok (.iconst 0, 1) := by decide +kernel
theorem dX9_place_80 : decode cX9_place 80 = .ok (.istore 5, 2) := by decide +kernel
theorem dX9_place_82 : decode cX9_place 82 = .ok (.iconst 0, 1) := by decide +kernel
theorem dX9_place_83 : decode cX9_place 83 = .ok (.istore 6, 2) := by decide +kernel
theorem dX9_place_85 : decode cX9_place 85 = .ok (.iload 6, 2) := by decide +kernel
theorem dX9_place_87 : decode cX9_place 87 = .ok (.aload_n 0, 1) := by decide +kernel
theorem dX9_place_88 : decode cX9_place 88 = .ok (.getfield 256, 3) := by decide +kernel
theorem dX9_place_91 : decode cX9_place 91 = .ok (.if_icmp .ge 87, 3) := by decide +kernel
theorem dX9_place_94 : decode cX9_place 94 = .ok (.aload_n 0, 1) := by decide +kernel
theorem dX9_place_95 : decode cX9_place 95 = .ok (.getfield 119, 3) := by decide +kernel
theorem dX9_place_98 : decode cX9_place 98 = .ok (.iload 6, 2) := by decide +kernel
theorem dX9_place_100 : decode cX9_place 100 = .ok (.iaload, 1) := by decide +kernel
theorem dX9_place_101 : decode cX9_place 101 = .ok (.iconst 1, 1) := by decide +kernel
theorem dX9_place_102 : decode cX9_place 102 = .ok (.if_icmp .ne 70, 3) := by decide +kernel
theorem dX9_place_105 : decode cX9_place 105 = .ok (.aload_n 0, 1) := by decide +kernel
theorem dX9_place_106 : decode cX9_place 106 = .ok (.getfield 122, 3) := by decide +kernel
theorem dX9_place_109 : decode cX9_place 109 = .ok (.iload 6, 2) := by decide +kernel
theorem dX9_place_111 : decode cX9_place 111 = .ok (.iaload, 1) := by decide +kernel
theorem dX9_place_112 : decode cX9_place 112 = .ok (.bipush 8, 2) := by decide +kernel
theorem dX9_place_114 : decode cX9_place 114 = .ok (.irem, 1) := by decide +kernel
theorem dX9_place_115 : decode cX9_place 115 = .ok (.iload_n 1, 1) := by decide +kernel
theorem dX9_place_116 : decode cX9_place 116 = .ok (.if_icmp .ne 56, 3) := by decide +kernel
theorem dX9_place_119 : decode cX9_place 119 = .ok (.aload_n 0, 1) := by decide +kernel
theorem dX9_place_120 : decode cX9_place 120 = .ok (.aload_n 0, 1) := by decide +kernel
theorem dX9_place_121 : decode cX9_place 121 = .ok (.getfield 122, 3) := by decide +kernel
theorem dX9_place_124 : decode cX9_place 124 = .ok (.iload 6, 2) := by decide +kernel
theorem dX9_place_126 : decode cX9_place 126 = .ok (.iaload, 1) := by decide +kernel
theorem dX9_place_127 : decode cX9_place 127 = .ok (.invokevirtual 262, 3) := by decide +kernel
theorem dX9_place_130 : decode cX9_place 130 = .ok (.ifCond .eq 33, 3) := by decide +kernel
theorem dX9_place_133 : decode cX9_place 133 = .ok (.aload_n 0, 1) := by decide +kernel
theorem dX9_place_134 : decode cX9_place 134 = .ok (.getfield 85, 3) := by decide +kernel
theorem dX9_place_137 : decode cX9_place 137 = .ok (.bipush 60, 2) := by decide +kernel
theorem dX9_place_139 : decode cX9_place 139 = .ok (.iload_n 1, 1) := by decide +kernel
theorem dX9_place_140 : decode cX9_place 140 = .ok (.imul, 1) := by decide +kernel
theorem dX9_place_141 : decode cX9_place 141 = .ok (.aload_n 0, 1) := by decide +kernel
theorem dX9_place_142 : decode cX9_place 142 = .ok (.getfield 122, 3) := by decide +kernel
theorem dX9_place_145 : decode cX9_place 145 = .ok (.iload 6, 2) := by decide +kernel
theorem dX9_place_147 : decode cX9_place 147 = .ok (.iaload, 1) := by decide +kernel
theorem dX9_place_148 : decode cX9_place 148 = .ok (.bipush 48, 2) := by decide +kernel
theorem dX9_place_150 : decode cX9_place 150 = .ok (.idiv, 1) := by decide +kernel
theorem dX9_place_151 : decode cX9_place 151 = .ok (.iadd, 1) := by decide +kernel
theorem dX9_place_152 : decode cX9_place 152 = .ok (.iaload, 1) := by decide +kernel
theorem dX9_place_153 : decode cX9_place 153 = .ok (.aload_n 0, 1) := by decide +kernel
theorem dX9_place_154 : decode cX9_place 154 = .ok (.getfield 98, 3) := by decide +kernel
theorem dX9_place_157 : decode cX9_place 157 = .ok (.iload 6, 2) := by decide +kernel
theorem dX9_place_159 : decode cX9_place 159 = .ok (.iaload, 1) := by decide +kernel
theorem dX9_place_160 : decode cX9_place 160 = .ok (.if_icmp .eq 12, 3) := by decide +kernel
theorem dX9_place_163 : decode cX9_place 163 = .ok (.aload_n 0, 1) := by decide +kernel
theorem dX9_place_164 : decode cX9_place 164 = .ok (.iload 6, 2) := by decide +kernel
theorem dX9_place_166 : decode cX9_place 166 = .ok (.invokevirtual 299, 3) := by decide +kernel
theorem dX9_place_169 : decode cX9_place 169 = .ok (.iinc 5 1, 3) := by decide +kernel
theorem dX9_place_172 : decode cX9_place 172 = .ok (.iinc 6 1, 3) := by decide +kernel
theorem dX9_place_175 : decode cX9_place 175 = .ok (.goto (-90), 3) := by decide +kernel
theorem dX9_place_178 : decode cX9_place 178 = .ok (.iload 5, 2) := by decide +kernel
theorem dX9_place_180 : decode cX9_place 180 = .ok (.ireturn, 1) := by decide +kernel
set_option maxRecDepth 20000 in
theorem ggX9_shut_X9_waits : GoodIn wsX9_shut wsX9_waits := goodIn_r _ [12, 6, 7, 79, 80, 81, 82, 83, 84, 85, 86, 87, 88, 89, 90, 91, 92, 93, 94, 95, 96, 97, 98, 99, 100, 101, 102, 103, 104, 105, 106, 107, 108, 109, 110, 111, 112, 113, 114, 115, 116, 117, 118, 119, 120, 121, 122, 123, 124, 125, 126, 127, 128, 129, 130, 131, 132, 133, 134, 135, 136, 137, 138, 139, 140] (by decide +kernel) (by decide +kernel)
set_option maxRecDepth 20000 in
theorem gX9_shut_X9_waits : GoodIn wsX9_shut (wsV RX9 299 RX9 yX9_waits wsX9_waits) := goodIn_app (goodIn_of _ (by decide +kernel)) ggX9_shut_X9_waits
set_option maxRecDepth 20000 in
theorem ggX9_shut_X9_deals : GoodIn wsX9_shut wsX9_deals := goodIn_r _ [16, 5, 2, 6, 17, 18, 19, 11, 20, 4, 21, 22, 23, 24, 25, 26, 27, 28, 29, 30, 31, 32, 33, 34, 35, 36, 37, 38, 39, 40, 41, 42, 43, 44, 45, 46, 47, 48, 49, 50, 51, 52, 53, 54, 3, 55, 56, 57, 58, 59, 60, 61, 62, 63, 64, 65, 66, 67, 68, 7, 69, 70, 71, 72, 73, 74, 75, 76, 77, 78, 79, 80, 81, 82, 83, 84, 85, 86, 87, 88, 89, 90, 91, 92, 93, 94, 95, 96, 97, 98, 99, 100, 101, 102, 103, 104, 105, 106, 107, 108, 109, 110, 111, 112, 113, 114, 115, 116, 117, 118, 119, 120, 121, 122, 123, 124, 125, 126, 127, 128, 129, 130, 131, 132, 133, 134, 135, 136, 137, 138, 139, 140] (by decide +kernel) (by decide +kernel)
set_option maxRecDepth 20000 in
theorem gX9_shut_X9_deals : GoodIn wsX9_shut (wsV RX9 293 RX9 yX9_deals wsX9_deals) := goodIn_app (goodIn_of _ (by decide +kernel)) ggX9_shut_X9_deals
theorem dX9_shut_0 : decode cX9_shut 0 = .ok (.aload_n 0, 1) := by decide +kernel
theorem dX9_shut_1 : decode cX9_shut 1 = .ok (.iconst 0, 1) := by decide +kernel
theorem dX9_shut_2 : decode cX9_shut 2 = .ok (.putfield 1, 3) := by decide +kernel
theorem dX9_shut_5 : decode cX9_shut 5 = .ok (.iload_n 1, 1) := by decide +kernel
theorem dX9_shut_6 : decode cX9_shut 6 = .ok (.aload_n 0, 1) := by decide +kernel
theorem dX9_shut_7 : decode cX9_shut 7 = .ok (.getfield 259, 3) := by decide +kernel
theorem dX9_shut_10 : decode cX9_shut 10 = .ok (.if_icmp .le 18, 3) := by decide +kernel
theorem dX9_shut_13 : decode cX9_shut 13 = .ok (.iload_n 1, 1) := by decide +kernel
theorem dX9_shut_14 : decode cX9_shut 14 = .ok (.bipush 59, 2) := by decide +kernel
theorem dX9_shut_16 : decode cX9_shut 16 = .ok (.if_icmp .gt 12, 3) := by decide +kernel
theorem dX9_shut_19 : decode cX9_shut 19 = .ok (.aload_n 0, 1) := by decide +kernel
theorem dX9_shut_20 : decode cX9_shut 20 = .ok (.getfield 88, 3) := by decide +kernel
theorem dX9_shut_23 : decode cX9_shut 23 = .ok (.iload_n 1, 1) := by decide +kernel
theorem dX9_shut_24 : decode cX9_shut 24 = .ok (.baload, 1) := by decide +kernel
theorem dX9_shut_25 : decode cX9_shut 25 = .ok (.ifCond .eq 5, 3) := by decide +kernel
theorem dX9_shut_28 : decode cX9_shut 28 = .ok (.iconst (-1), 1) := by decide +kernel
theorem dX9_shut_29 : decode cX9_shut 29 = .ok (.ireturn, 1) := by decide +kernel
theorem dX9_shut_30 : decode cX9_shut 30 = .ok (.aload_n 0, 1) := by decide +kernel
theorem dX9_shut_31 : decode cX9_shut 31 = .ok (.getfield 88, 3) := by decide +kernel
theorem dX9_shut_34 : decode cX9_shut 34 = .ok (.iload_n 1, 1) := by decide +kernel
theorem dX9_shut_35 : decode cX9_shut 35 = .ok (.iconst 1, 1) := by decide +kernel
theorem dX9_shut_36 : decode cX9_shut 36 = .ok (.bastore, 1) := by decide +kernel
theorem dX9_shut_37 : decode cX9_shut 37 = .ok (.iconst 0, 1) := by decide +kernel
theorem dX9_shut_38 : decode cX9_shut 38 = .ok (.istore_n 2, 1) := by decide +kernel
theorem dX9_shut_39 : decode cX9_shut 39 = .ok (.iconst 0, 1) := by decide +kernel
theorem dX9_shut_40 : decode cX9_shut 40 = .ok (.istore_n 3, 1) := by decide +kernel
theorem dX9_shut_41 : decode cX9_shut 41 = .ok (.iload_n 3, 1) := by decide +kernel
theorem dX9_shut_42 : decode cX9_shut 42 = .ok (.aload_n 0, 1) := by decide +kernel
theorem dX9_shut_43 : decode cX9_shut 43 = .ok (.getfield 256, 3) := by decide +kernel
theorem dX9_shut_46 : decode cX9_shut 46 = .ok (.if_icmp .ge 60, 3) := by decide +kernel
theorem dX9_shut_49 : decode cX9_shut 49 = .ok (.aload_n 0, 1) := by decide +kernel
theorem dX9_shut_50 : decode cX9_shut 50 = .ok (.getfield 134, 3) := by decide +kernel
theorem dX9_shut_53 : decode cX9_shut 53 = .ok (.iload_n 3, 1) := by decide +kernel
theorem dX9_shut_54 : decode cX9_shut 54 = .ok (.aload_n 0, 1) := by decide +kernel
theorem dX9_shut_55 : decode cX9_shut 55 = .ok (.getfield 119, 3) := by decide +kernel
theorem dX9_shut_58 : decode cX9_shut 58 = .ok (.iload_n 3, 1) := by decide +kernel
theorem dX9_shut_59 : decode cX9_shut 59 = .ok (.iaload, 1) := by decide +kernel
theorem dX9_shut_60 : decode cX9_shut 60 = .ok (.iconst 1, 1) := by decide +kernel
theorem dX9_shut_61 : decode cX9_shut 61 = .ok (.if_icmp .ne 20, 3) := by decide +kernel
theorem dX9_shut_64 : decode cX9_shut 64 = .ok (.aload_n 0, 1) := by decide +kernel
theorem dX9_shut_65 : decode cX9_shut 65 = .ok (.getfield 122, 3) := by decide +kernel
theorem dX9_shut_68 : decode cX9_shut 68 = .ok (.iload_n 3, 1) := by decide +kernel
theorem dX9_shut_69 : decode cX9_shut 69 = .ok (.iaload, 1) := by decide +kernel
theorem dX9_shut_70 : decode cX9_shut 70 = .ok (.bipush 48, 2) := by decide +kernel
theorem dX9_shut_72 : decode cX9_shut 72 = .ok (.idiv, 1) := by decide +kernel
theorem dX9_shut_73 : decode cX9_shut 73 = .ok (.iload_n 1, 1) := by decide +kernel
theorem dX9_shut_74 : decode cX9_shut 74 = .ok (.if_icmp .ne 7, 3) := by decide +kernel
theorem dX9_shut_77 : decode cX9_shut 77 = .ok (.iconst 1, 1) := by decide +kernel
theorem dX9_shut_78 : decode cX9_shut 78 = .ok (.goto 4, 3) := by decide +kernel
theorem dX9_shut_81 : decode cX9_shut 81 = .ok (.iconst 0, 1) := by decide +kernel
theorem dX9_shut_82 : decode cX9_shut 82 = .ok (.bastore, 1) := by decide +kernel
theorem dX9_shut_83 : decode cX9_shut 83 = .ok (.aload_n 0, 1) := by decide +kernel
theorem dX9_shut_84 : decode cX9_shut 84 = .ok (.getfield 134, 3) := by decide +kernel
theorem dX9_shut_87 : decode cX9_shut 87 = .ok (.iload_n 3, 1) := by decide +kernel
theorem dX9_shut_88 : decode cX9_shut 88 = .ok (.baload, 1) := by decide +kernel
theorem dX9_shut_89 : decode cX9_shut 89 = .ok (.ifCond .eq 11, 3) := by decide +kernel
theorem dX9_shut_92 : decode cX9_shut 92 = .ok (.aload_n 0, 1) := by decide +kernel
theorem dX9_shut_93 : decode cX9_shut 93 = .ok (.iload_n 3, 1) := by decide +kernel
theorem dX9_shut_94 : decode cX9_shut 94 = .ok (.invokevirtual 299, 3) := by decide +kernel
theorem dX9_shut_97 : decode cX9_shut 97 = .ok (.iinc 2 1, 3) := by decide +kernel
theorem dX9_shut_100 : decode cX9_shut 100 = .ok (.iinc 3 1, 3) := by decide +kernel
theorem dX9_shut_103 : decode cX9_shut 103 = .ok (.goto (-62), 3) := by decide +kernel
theorem dX9_shut_106 : decode cX9_shut 106 = .ok (.iload_n 2, 1) := by decide +kernel
theorem dX9_shut_107 : decode cX9_shut 107 = .ok (.aload_n 0, 1) := by decide +kernel
theorem dX9_shut_108 : decode cX9_shut 108 = .ok (.invokevirtual 293, 3) := by decide +kernel
theorem dX9_shut_111 : decode cX9_shut 111 = .ok (.isub, 1) := by decide +kernel
theorem dX9_shut_112 : decode cX9_shut 112 = .ok (.ireturn, 1) := by decide +kernel
set_option maxRecDepth 20000 in
theorem ggX9_days_X9_waits : GoodIn wsX9_days wsX9_waits := goodIn_r _ [10, 4, 5, 11, 12, 13, 14, 15, 16, 17, 18, 19, 20, 21, 22, 23, 24, 25, 26, 27, 28, 29, 30, 31, 32, 33, 34, 35, 36, 37, 38, 39, 40, 41, 42, 43, 44, 45, 46, 47, 48, 49, 50, 51, 52, 53, 54, 55, 56, 57, 58, 59, 60, 61, 62, 63, 64, 65, 66, 67, 68, 69, 70, 71, 72] (by decide +kernel) (by decide +kernel)
set_option maxRecDepth 20000 in
theorem gX9_days_X9_waits : GoodIn wsX9_days (wsV RX9 299 RX9 yX9_waits wsX9_waits) := goodIn_app (goodIn_of _ (by decide +kernel)) ggX9_days_X9_waits
theorem dX9_days_0 : decode cX9_days 0 = .ok (.aload_n 0, 1) := by decide +kernel
theorem dX9_days_1 : decode cX9_days 1 = .ok (.iconst 0, 1) := by decide +kernel
theorem dX9_days_2 : decode cX9_days 2 = .ok (.putfield 1, 3) := by decide +kernel
theorem dX9_days_5 : decode cX9_days 5 = .ok (.iload_n 1, 1) := by decide +kernel
theorem dX9_days_6 : decode cX9_days 6 = .ok (.iconst 1, 1) := by decide +kernel
theorem dX9_days_7 : decode cX9_days 7 = .ok (.if_icmp .lt 20, 3) := by decide +kernel
theorem dX9_days_10 : decode cX9_days 10 = .ok (.iload_n 1, 1) := by decide +kernel
theorem dX9_days_11 : decode cX9_days 11 = .ok (.bipush 59, 2) := by decide +kernel
theorem dX9_days_13 : decode cX9_days 13 = .ok (.if_icmp .gt 14, 3) := by decide +kernel
theorem dX9_days_16 : decode cX9_days 16 = .ok (.aload_n 0, 1) := by decide +kernel
theorem dX9_days_17 : decode cX9_days 17 = .ok (.getfield 259, 3) := by decide +kernel
theorem dX9_days_20 : decode cX9_days 20 = .ok (.iload_n 1, 1) := by decide +kernel
theorem dX9_days_21 : decode cX9_days 21 = .ok (.iadd, 1) := by decide +kernel
theorem dX9_days_22 : decode cX9_days 22 = .ok (.bipush 59, 2) := by decide +kernel
theorem dX9_days_24 : decode cX9_days 24 = .ok (.if_icmp .le 5, 3) := by decide +kernel
theorem dX9_days_27 : decode cX9_days 27 = .ok (.iconst (-1), 1) := by decide +kernel
theorem dX9_days_28 : decode cX9_days 28 = .ok (.ireturn, 1) := by decide +kernel
theorem dX9_days_29 : decode cX9_days 29 = .ok (.aload_n 0, 1) := by decide +kernel
theorem dX9_days_30 : decode cX9_days 30 = .ok (.dup, 1) := by decide +kernel
theorem dX9_days_31 : decode cX9_days 31 = .ok (.getfield 259, 3) := by decide +kernel
theorem dX9_days_34 : decode cX9_days 34 = .ok (.iload_n 1, 1) := by decide +kernel
theorem dX9_days_35 : decode cX9_days 35 = .ok (.iadd, 1) := by decide +kernel
theorem dX9_days_36 : decode cX9_days 36 = .ok (.putfield 259, 3) := by decide +kernel
theorem dX9_days_39 : decode cX9_days 39 = .ok (.iconst 0, 1) := by decide +kernel
theorem dX9_days_40 : decode cX9_days 40 = .ok (.istore_n 2, 1) := by decide +kernel
theorem dX9_days_41 : decode cX9_days 41 = .ok (.iload_n 2, 1) := by decide +kernel
theorem dX9_days_42 : decode cX9_days 42 = .ok (.aload_n 0, 1) := by decide +kernel
theorem dX9_days_43 : decode cX9_days 43 = .ok (.getfield 256, 3) := by decide +kernel
theorem dX9_days_46 : decode cX9_days 46 = .ok (.if_icmp .ge 40, 3) := by decide +kernel
theorem dX9_days_49 : decode cX9_days 49 = .ok (.aload_n 0, 1) := by decide +kernel
theorem dX9_days_50 : decode cX9_days 50 = .ok (.getfield 119, 3) := by decide +kernel
theorem dX9_days_53 : decode cX9_days 53 = .ok (.iload_n 2, 1) := by decide +kernel
theorem dX9_days_54 : decode cX9_days 54 = .ok (.iaload, 1) := by decide +kernel
theorem dX9_days_55 : decode cX9_days 55 = .ok (.iconst 1, 1) := by decide +kernel
theorem dX9_days_56 : decode cX9_days 56 = .ok (.if_icmp .ne 24, 3) := by decide +kernel
theorem dX9_days_59 : decode cX9_days 59 = .ok (.aload_n 0, 1) := by decide +kernel
theorem dX9_days_60 : decode cX9_days 60 = .ok (.getfield 122, 3) := by decide +kernel
theorem dX9_days_63 : decode cX9_days 63 = .ok (.iload_n 2, 1) := by decide +kernel
theorem dX9_days_64 : decode cX9_days 64 = .ok (.iaload, 1) := by decide +kernel
theorem dX9_days_65 : decode cX9_days 65 = .ok (.bipush 48, 2) := by decide +kernel
theorem dX9_days_67 : decode cX9_days 67 = .ok (.idiv, 1) := by decide +kernel
theorem dX9_days_68 : decode cX9_days 68 = .ok (.aload_n 0, 1) := by decide +kernel
theorem dX9_days_69 : decode cX9_days 69 = .ok (.getfield 259, 3) := by decide +kernel
theorem dX9_days_72 : decode cX9_days 72 = .ok (.if_icmp .ge 8, 3) := by decide +kernel
theorem dX9_days_75 : decode cX9_days 75 = .ok (.aload_n 0, 1) := by decide +kernel
theorem dX9_days_76 : decode cX9_days 76 = .ok (.iload_n 2, 1) := by decide +kernel
theorem dX9_days_77 : decode cX9_days 77 = .ok (.invokevirtual 299, 3) := by decide +kernel
theorem dX9_days_80 : decode cX9_days 80 = .ok (.iinc 2 1, 3) := by decide +kernel
theorem dX9_days_83 : decode cX9_days 83 = .ok (.goto (-42), 3) := by decide +kernel
theorem dX9_days_86 : decode cX9_days 86 = .ok (.aload_n 0, 1) := by decide +kernel
theorem dX9_days_87 : decode cX9_days 87 = .ok (.getfield 259, 3) := by decide +kernel
theorem dX9_days_90 : decode cX9_days 90 = .ok (.ireturn, 1) := by decide +kernel
set_option maxRecDepth 20000 in
theorem ggX9_held_X9_isLearner : GoodIn wsX9_held wsX9_isLearner := goodIn_r _ [13, 14, 19, 20, 21, 22, 23, 24, 25, 26, 27, 28, 29, 30, 31, 32, 33, 34, 35, 36, 37, 38, 39, 40, 41, 42, 43, 44, 45, 46, 47, 48, 49, 50, 51, 52, 53, 54, 55, 56, 57, 58, 59, 60, 61, 62, 63, 64, 65, 66, 67, 68, 69, 70, 71, 72, 73, 74, 75, 76, 77, 78, 79, 80] (by decide +kernel) (by decide +kernel)
set_option maxRecDepth 20000 in
theorem gX9_held_X9_isLearner : GoodIn wsX9_held (wsV RX9 296 RX9 yX9_isLearner wsX9_isLearner) := goodIn_app (goodIn_of _ (by decide +kernel)) ggX9_held_X9_isLearner
set_option maxRecDepth 20000 in
theorem ggX9_held_X9_waits : GoodIn wsX9_held wsX9_waits := goodIn_r _ [18, 2, 3, 19, 20, 21, 22, 23, 24, 25, 26, 27, 28, 29, 30, 31, 32, 33, 34, 35, 36, 37, 38, 39, 40, 41, 42, 43, 44, 45, 46, 47, 48, 49, 50, 51, 52, 53, 54, 55, 56, 57, 58, 59, 60, 61, 62, 63, 64, 65, 66, 67, 68, 69, 70, 71, 72, 73, 74, 75, 76, 77, 78, 79, 80] (by decide +kernel) (by decide +kernel)
set_option maxRecDepth 20000 in
theorem gX9_held_X9_waits : GoodIn wsX9_held (wsV RX9 299 RX9 yX9_waits wsX9_waits) := goodIn_app (goodIn_of _ (by decide +kernel)) ggX9_held_X9_waits
theorem dX9_held_0 : decode cX9_held 0 = .ok (.aload_n 0, 1) := by decide +kernel
theorem dX9_held_1 : decode cX9_held 1 = .ok (.iconst 0, 1) := by decide +kernel
theorem dX9_held_2 : decode cX9_held 2 = .ok (.putfield 1, 3) := by decide +kernel
theorem dX9_held_5 : decode cX9_held 5 = .ok (.aload_n 0, 1) := by decide +kernel
theorem dX9_held_6 : decode cX9_held 6 = .ok (.iload_n 1, 1) := by decide +kernel
theorem dX9_held_7 : decode cX9_held 7 = .ok (.invokevirtual 296, 3) := by decide +kernel
theorem dX9_held_10 : decode cX9_held 10 = .ok (.ifCond .eq 29, 3) := by decide +kernel
theorem dX9_held_13 : decode cX9_held 13 = .ok (.aload_n 0, 1) := by decide +kernel
theorem dX9_held_14 : decode cX9_held 14 = .ok (.getfield 119, 3) := by decide +kernel
theorem dX9_held_17 : decode cX9_held 17 = .ok (.iload_n 1, 1) := by decide +kernel
theorem dX9_held_18 : decode cX9_held 18 = .ok (.iaload, 1) := by decide +kernel
theorem dX9_held_19 : decode cX9_held 19 = .ok (.iconst 1, 1) := by decide +kernel
theorem dX9_held_20 : decode cX9_held 20 = .ok (.if_icmp .ne 19, 3) := by decide +kernel
theorem dX9_held_23 : decode cX9_held 23 = .ok (.aload_n 0, 1) := by decide +kernel
theorem dX9_held_24 : decode cX9_held 24 = .ok (.getfield 122, 3) := by decide +kernel
theorem dX9_held_27 : decode cX9_held 27 = .ok (.iload_n 1, 1) := by decide +kernel
theorem dX9_held_28 : decode cX9_held 28 = .ok (.iaload, 1) := by decide +kernel
theorem dX9_held_29 : decode cX9_held 29 = .ok (.bipush 48, 2) := by decide +kernel
theorem dX9_held_31 : decode cX9_held 31 = .ok (.idiv, 1) := by decide +kernel
theorem dX9_held_32 : decode cX9_held 32 = .ok (.aload_n 0, 1) := by decide +kernel
theorem dX9_held_33 : decode cX9_held 33 = .ok (.getfield 259, 3) := by decide +kernel
theorem dX9_held_36 : decode cX9_held 36 = .ok (.if_icmp .eq 5, 3) := by decide +kernel
theorem dX9_held_39 : decode cX9_held 39 = .ok (.iconst 0, 1) := by decide +kernel
theorem dX9_held_40 : decode cX9_held 40 = .ok (.ireturn, 1) := by decide +kernel
theorem dX9_held_41 : decode cX9_held 41 = .ok (.aload_n 0, 1) := by decide +kernel
theorem dX9_held_42 : decode cX9_held 42 = .ok (.getfield 122, 3) := by decide +kernel
theorem dX9_held_45 : decode cX9_held 45 = .ok (.iload_n 1, 1) := by decide +kernel
theorem dX9_held_46 : decode cX9_held 46 = .ok (.iaload, 1) := by decide +kernel
theorem dX9_held_47 : decode cX9_held 47 = .ok (.bipush 8, 2) := by decide +kernel
theorem dX9_held_49 : decode cX9_held 49 = .ok (.irem, 1) := by decide +kernel
theorem dX9_held_50 : decode cX9_held 50 = .ok (.istore_n 3, 1) := by decide +kernel
theorem dX9_held_51 : decode cX9_held 51 = .ok (.aload_n 0, 1) := by decide +kernel
theorem dX9_held_52 : decode cX9_held 52 = .ok (.getfield 92, 3) := by decide +kernel
theorem dX9_held_55 : decode cX9_held 55 = .ok (.iload_n 3, 1) := by decide +kernel
theorem dX9_held_56 : decode cX9_held 56 = .ok (.dup2, 1) := by decide +kernel
theorem dX9_held_57 : decode cX9_held 57 = .ok (.iaload, 1) := by decide +kernel
theorem dX9_held_58 : decode cX9_held 58 = .ok (.iconst 1, 1) := by decide +kernel
theorem dX9_held_59 : decode cX9_held 59 = .ok (.iadd, 1) := by decide +kernel
theorem dX9_held_60 : decode cX9_held 60 = .ok (.iastore, 1) := by decide +kernel
theorem dX9_held_61 : decode cX9_held 61 = .ok (.aload_n 0, 1) := by decide +kernel
theorem dX9_held_62 : decode cX9_held 62 = .ok (.getfield 95, 3) := by decide +kernel
theorem dX9_held_65 : decode cX9_held 65 = .ok (.iload_n 3, 1) := by decide +kernel
theorem dX9_held_66 : decode cX9_held 66 = .ok (.dup2, 1) := by decide +kernel
theorem dX9_held_67 : decode cX9_held 67 = .ok (.iaload, 1) := by decide +kernel
theorem dX9_held_68 : decode cX9_held 68 = .ok (.iload_n 2, 1) := by decide +kernel
theorem dX9_held_69 : decode cX9_held 69 = .ok (.ifCond .eq 7, 3) := by decide +kernel
theorem dX9_held_72 : decode cX9_held 72 = .ok (.iconst 1, 1) := by decide +kernel
theorem dX9_held_73 : decode cX9_held 73 = .ok (.goto 4, 3) := by decide +kernel
theorem dX9_held_76 : decode cX9_held 76 = .ok (.iconst 0, 1) := by decide +kernel
theorem dX9_held_77 : decode cX9_held 77 = .ok (.iadd, 1) := by decide +kernel
theorem dX9_held_78 : decode cX9_held 78 = .ok (.iastore, 1) := by decide +kernel
theorem dX9_held_79 : decode cX9_held 79 = .ok (.aload_n 0, 1) := by decide +kernel
theorem dX9_held_80 : decode cX9_held 80 = .ok (.dup, 1) := by decide +kernel
theorem dX9_held_81 : decode cX9_held 81 = .ok (.getfield 305, 3) := by decide +kernel
theorem dX9_held_84 : decode cX9_held 84 = .ok (.iconst 1, 1) := by decide +kernel
theorem dX9_held_85 : decode cX9_held 85 = .ok (.iadd, 1) := by decide +kernel
theorem dX9_held_86 : decode cX9_held 86 = .ok (.putfield 305, 3) := by decide +kernel
theorem dX9_held_89 : decode cX9_held 89 = .ok (.aload_n 0, 1) := by decide +kernel
theorem dX9_held_90 : decode cX9_held 90 = .ok (.iload_n 1, 1) := by decide +kernel
theorem dX9_held_91 : decode cX9_held 91 = .ok (.invokevirtual 299, 3) := by decide +kernel
theorem dX9_held_94 : decode cX9_held 94 = .ok (.aload_n 0, 1) := by decide +kernel
theorem dX9_held_95 : decode cX9_held 95 = .ok (.getfield 119, 3) := by decide +kernel
theorem dX9_held_98 : decode cX9_held 98 = .ok (.iload_n 1, 1) := by decide +kernel
theorem dX9_held_99 : decode cX9_held 99 = .ok (.iload_n 2, 1) := by decide +kernel
theorem dX9_held_100 : decode cX9_held 100 = .ok (.ifCond .eq 7, 3) := by decide +kernel
theorem dX9_held_103 : decode cX9_held 103 = .ok (.iconst 2, 1) := by decide +kernel
theorem dX9_held_104 : decode cX9_held 104 = .ok (.goto 4, 3) := by decide +kernel
theorem dX9_held_107 : decode cX9_held 107 = .ok (.iconst 0, 1) := by decide +kernel
theorem dX9_held_108 : decode cX9_held 108 = .ok (.iastore, 1) := by decide +kernel
theorem dX9_held_109 : decode cX9_held 109 = .ok (.aload_n 0, 1) := by decide +kernel
theorem dX9_held_110 : decode cX9_held 110 = .ok (.getfield 125, 3) := by decide +kernel
theorem dX9_held_113 : decode cX9_held 113 = .ok (.iload_n 1, 1) := by decide +kernel
theorem dX9_held_114 : decode cX9_held 114 = .ok (.dup2, 1) := by decide +kernel
theorem dX9_held_115 : decode cX9_held 115 = .ok (.iaload, 1) := by decide +kernel
theorem dX9_held_116 : decode cX9_held 116 = .ok (.iload_n 2, 1) := by decide +kernel
theorem dX9_held_117 : decode cX9_held 117 = .ok (.ifCond .eq 7, 3) := by decide +kernel
theorem dX9_held_120 : decode cX9_held 120 = .ok (.iconst 0, 1) := by decide +kernel
theorem dX9_held_121 : decode cX9_held 121 = .ok (.goto 4, 3) := by decide +kernel
theorem dX9_held_124 : decode cX9_held 124 = .ok (.iconst 1, 1) := by decide +kernel
theorem dX9_held_125 : decode cX9_held 125 = .ok (.iadd, 1) := by decide +kernel
theorem dX9_held_126 : decode cX9_held 126 = .ok (.iastore, 1) := by decide +kernel
theorem dX9_held_127 : decode cX9_held 127 = .ok (.iconst 1, 1) := by decide +kernel
theorem dX9_held_128 : decode cX9_held 128 = .ok (.ireturn, 1) := by decide +kernel
set_option maxRecDepth 20000 in
theorem ggX9_look_X9_isLearner : GoodIn wsX9_look wsX9_isLearner := goodIn_r _ [10, 11, 46, 47, 48, 49, 50, 51, 52, 53, 54, 55, 56, 57, 58, 59, 60, 61, 62, 63, 64, 65, 66, 67, 68, 69, 70, 71, 72, 73, 74, 75, 76, 77, 78, 79, 80, 81, 82, 83, 84, 85, 86, 87, 88, 89, 90, 91, 92, 93, 94, 95, 96, 97, 98, 99, 100, 101, 102, 103, 104, 105, 106, 107] (by decide +kernel) (by decide +kernel)
set_option maxRecDepth 20000 in
theorem gX9_look_X9_isLearner : GoodIn wsX9_look (wsV RX9 296 RX9 yX9_isLearner wsX9_isLearner) := goodIn_app (goodIn_of _ (by decide +kernel)) ggX9_look_X9_isLearner
set_option maxRecDepth 20000 in
theorem ggX9_look_X9_placeOf : GoodIn wsX9_look wsX9_placeOf := goodIn_r _ [15, 2, 11, 16, 17, 18, 9, 19, 20, 21, 22, 23, 24, 25, 26, 27, 28, 29, 4, 30, 31, 32, 33, 34, 35, 36, 37, 38, 39, 40, 41, 42, 43, 44, 45, 46, 47, 48, 49, 50, 51, 52, 53, 54, 55, 56, 57, 58, 59, 60, 61, 62, 63, 64, 65, 66, 67, 68, 69, 70, 71, 72, 73, 74, 75, 76, 77, 78, 79, 80, 81, 82, 83, 84, 85, 86, 87, 88, 89, 90, 91, 92, 93, 94, 95, 96, 97, 98, 99, 100, 101, 102, 103, 104, 105, 106, 107] (by decide +kernel) (by decide +kernel)
set_option maxRecDepth 20000 in
theorem gX9_look_X9_placeOf : GoodIn wsX9_look (wsV RX9 308 RX9 yX9_placeOf wsX9_placeOf) := goodIn_app (goodIn_of _ (by decide +kernel)) ggX9_look_X9_placeOf
theorem dX9_look_0 : decode cX9_look 0 = .ok (.aload_n 0, 1) := by decide +kernel
theorem dX9_look_1 : decode cX9_look 1 = .ok (.aload_n 0, 1) := by decide +kernel
theorem dX9_look_2 : decode cX9_look 2 = .ok (.iload_n 1, 1) := by decide +kernel
theorem dX9_look_3 : decode cX9_look 3 = .ok (.invokevirtual 296, 3) := by decide +kernel
theorem dX9_look_6 : decode cX9_look 6 = .ok (.ifCond .eq 16, 3) := by decide +kernel
theorem dX9_look_9 : decode cX9_look 9 = .ok (.iload_n 2, 1) := by decide +kernel
theorem dX9_look_10 : decode cX9_look 10 = .ok (.ifCond .lt 12, 3) := by decide +kernel
theorem dX9_look_13 : decode cX9_look 13 = .ok (.iload_n 2, 1) := by decide +kernel
theorem dX9_look_14 : decode cX9_look 14 = .ok (.iconst 4, 1) := by decide +kernel
theorem dX9_look_15 : decode cX9_look 15 = .ok (.if_icmp .gt 7, 3) := by decide +kernel
theorem dX9_look_18 : decode cX9_look 18 = .ok (.iconst 0, 1) := by decide +kernel
theorem dX9_look_19 : decode cX9_look 19 = .ok (.goto 4, 3) := by decide +kernel
theorem dX9_look_22 : decode cX9_look 22 = .ok (.iconst 1, 1) := by decide +kernel
theorem dX9_look_23 : decode cX9_look 23 = .ok (.putfield 1, 3) := by decide +kernel
theorem dX9_look_26 : decode cX9_look 26 = .ok (.aload_n 0, 1) := by decide +kernel
theorem dX9_look_27 : decode cX9_look 27 = .ok (.getfield 1, 3) := by decide +kernel
theorem dX9_look_30 : decode cX9_look 30 = .ok (.ifCond .le 5, 3) := by decide +kernel
theorem dX9_look_33 : decode cX9_look 33 = .ok (.iconst 0, 1) := by decide +kernel
theorem dX9_look_34 : decode cX9_look 34 = .ok (.ireturn, 1) := by decide +kernel
theorem dX9_look_35 : decode cX9_look 35 = .ok (.iload_n 2, 1) := by decide +kernel
theorem dX9_look_36 : decode cX9_look 36 = .ok (.tableswitch 59 0 3 #[32, 39, 46, 53], 32) := by decide +kernel
theorem dX9_look_68 : decode cX9_look 68 = .ok (.aload_n 0, 1) := by decide +kernel
theorem dX9_look_69 : decode cX9_look 69 = .ok (.getfield 119, 3) := by decide +kernel
theorem dX9_look_72 : decode cX9_look 72 = .ok (.iload_n 1, 1) := by decide +kernel
theorem dX9_look_73 : decode cX9_look 73 = .ok (.iaload, 1) := by decide +kernel
theorem dX9_look_74 : decode cX9_look 74 = .ok (.ireturn, 1) := by decide +kernel
theorem dX9_look_75 : decode cX9_look 75 = .ok (.aload_n 0, 1) := by decide +kernel
theorem dX9_look_76 : decode cX9_look 76 = .ok (.getfield 122, 3) := by decide +kernel
theorem dX9_look_79 : decode cX9_look 79 = .ok (.iload_n 1, 1) := by decide +kernel
theorem dX9_look_80 : decode cX9_look 80 = .ok (.iaload, 1) := by decide +kernel
theorem dX9_look_81 : decode cX9_look 81 = .ok (.ireturn, 1) := by decide +kernel
theorem dX9_look_82 : decode cX9_look 82 = .ok (.aload_n 0, 1) := by decide +kernel
theorem dX9_look_83 : decode cX9_look 83 = .ok (.getfield 125, 3) := by decide +kernel
theorem dX9_look_86 : decode cX9_look 86 = .ok (.iload_n 1, 1) := by decide +kernel
theorem dX9_look_87 : decode cX9_look 87 = .ok (.iaload, 1) := by decide +kernel
theorem dX9_look_88 : decode cX9_look 88 = .ok (.ireturn, 1) := by decide +kernel
theorem dX9_look_89 : decode cX9_look 89 = .ok (.aload_n 0, 1) := by decide +kernel
theorem dX9_look_90 : decode cX9_look 90 = .ok (.iload_n 1, 1) := by decide +kernel
theorem dX9_look_91 : decode cX9_look 91 = .ok (.invokevirtual 308, 3) := by decide +kernel
theorem dX9_look_94 : decode cX9_look 94 = .ok (.ireturn, 1) := by decide +kernel
theorem dX9_look_95 : decode cX9_look 95 = .ok (.aload_n 0, 1) := by decide +kernel
theorem dX9_look_96 : decode cX9_look 96 = .ok (.getfield 128, 3) := by decide +kernel
theorem dX9_look_99 : decode cX9_look 99 = .ok (.iload_n 1, 1) := by decide +kernel
theorem dX9_look_100 : decode cX9_look 100 = .ok (.iaload, 1) := by decide +kernel
theorem dX9_look_101 : decode cX9_look 101 = .ok (.ireturn, 1) := by decide +kernel
set_option maxRecDepth 20000 in
theorem ggX9_placeOf_X9_findRanks : GoodIn wsX9_placeOf wsX9_findRanks := goodIn_r _ [7, 2, 8, 9, 10, 11, 6, 12, 13, 14, 15, 16, 17, 18, 19, 20, 21, 22, 23, 24, 25, 26, 27, 28, 29, 30, 35, 36, 37, 38, 39, 40, 41, 42, 43, 44, 45, 46, 47, 48, 49, 50, 51, 52, 53, 54, 55, 56, 57, 58, 59, 60, 61, 62, 63, 64, 65, 66, 67, 68, 69, 70, 71, 72, 73, 74, 75, 76, 77, 78, 79, 80, 81, 82, 83, 84, 85, 86, 87, 88, 89, 90, 91, 92, 93, 94, 95, 96] (by decide +kernel) (by decide +kernel)
set_option maxRecDepth 20000 in
theorem gX9_placeOf_X9_findRanks : GoodIn wsX9_placeOf (wsV RX9 274 RX9 yX9_findRanks wsX9_findRanks) := goodIn_app (goodIn_of _ (by decide +kernel)) ggX9_placeOf_X9_findRanks
set_option maxRecDepth 20000 in
theorem ggX9_placeOf_X9_isAhead : GoodIn wsX9_placeOf wsX9_isAhead := goodIn_r _ [34, 8, 35, 36, 37, 38, 39, 40, 41, 42, 43, 44, 45, 46, 47, 48, 49, 50, 51, 52, 53, 54, 55, 56, 57, 58, 59, 60, 61, 62, 63, 64, 65, 66, 67, 68, 69, 70, 71, 72, 73, 74, 75, 76, 77, 78, 79, 80, 81, 82, 83, 84, 85, 86, 87, 88, 89, 90, 91, 92, 93, 94, 95, 96] (by decide +kernel) (by decide +kernel)
set_option maxRecDepth 20000 in
theorem gX9_placeOf_X9_isAhead : GoodIn wsX9_placeOf (wsV RX9 290 RX9 yX9_isAhead wsX9_isAhead) := goodIn_app (goodIn_of _ (by decide +kernel)) ggX9_placeOf_X9_isAhead
theorem dX9_placeOf_0 : decode cX9_placeOf 0 = .ok (.aload_n 0, 1) := by decide +kernel
theorem dX9_placeOf_1 : decode cX9_placeOf 1 = .ok (.getfield 119, 3) := by decide +kernel
theorem dX9_placeOf_4 : decode cX9_placeOf 4 = .ok (.iload_n 1, 1) := by decide +kernel
theorem dX9_placeOf_5 : decode cX9_placeOf 5 = .ok (.iaload, 1) := by decide +kernel
theorem dX9_placeOf_6 : decode cX9_placeOf 6 = .ok (.ifCond .eq 5, 3) := by decide +kernel
theorem dX9_placeOf_9 : decode cX9_placeOf 9 = .ok (.iconst (-1), 1) := by decide +kernel
theorem dX9_placeOf_10 : decode cX9_placeOf 10 = .ok (.ireturn, 1) := by decide +kernel
theorem dX9_placeOf_11 : decode cX9_placeOf 11 = .ok (.aload_n 0, 1) := by decide +kernel
theorem dX9_placeOf_12 : decode cX9_placeOf 12 = .ok (.invokevirtual 274, 3) := by decide +kernel
theorem dX9_placeOf_15 : decode cX9_placeOf 15 = .ok (.iconst 0, 1) := by decide +kernel
theorem dX9_placeOf_16 : decode cX9_placeOf 16 = .ok (.istore_n 2, 1) := by decide +kernel
theorem dX9_placeOf_17 : decode cX9_placeOf 17 = .ok (.iconst 0, 1) := by decide +kernel
theorem dX9_placeOf_18 : decode cX9_placeOf 18 = .ok (.istore_n 3, 1) := by decide +kernel
theorem dX9_placeOf_19 : decode cX9_placeOf 19 = .ok (.iload_n 3, 1) := by decide +kernel
theorem dX9_placeOf_20 : decode cX9_placeOf 20 = .ok (.aload_n 0, 1) := by decide +kernel
theorem dX9_placeOf_21 : decode cX9_placeOf 21 = .ok (.getfield 256, 3) := by decide +kernel
theorem dX9_placeOf_24 : decode cX9_placeOf 24 = .ok (.if_icmp .ge 35, 3) := by decide +kernel
theorem dX9_placeOf_27 : decode cX9_placeOf 27 = .ok (.iload_n 2, 1) := by decide +kernel
theorem dX9_placeOf_28 : decode cX9_placeOf 28 = .ok (.aload_n 0, 1) := by decide +kernel
theorem dX9_placeOf_29 : decode cX9_placeOf 29 = .ok (.getfield 119, 3) := by decide +kernel
theorem dX9_placeOf_32 : decode cX9_placeOf 32 = .ok (.iload_n 3, 1) := by decide +kernel
theorem dX9_placeOf_33 : decode cX9_placeOf 33 = .ok (.iaload, 1) := by decide +kernel
theorem dX9_placeOf_34 : decode cX9_placeOf 34 = .ok (.ifCond .ne 16, 3) := by decide +kernel
theorem dX9_placeOf_37 : decode cX9_placeOf 37 = .ok (.aload_n 0, 1) := by decide +kernel
theorem dX9_placeOf_38 : decode cX9_placeOf 38 = .ok (.iload_n 3, 1) := by decide +kernel
theorem dX9_placeOf_39 : decode cX9_placeOf 39 = .ok (.iload_n 1, 1) := by decide +kernel
theorem dX9_placeOf_40 : decode cX9_placeOf 40 = .ok (.invokevirtual 290, 3) := by decide +kernel
theorem dX9_placeOf_43 : decode cX9_placeOf 43 = .ok (.ifCond .eq 7, 3) := by decide +kernel
theorem dX9_placeOf_46 : decode cX9_placeOf 46 = .ok (.iconst 1, 1) := by decide +kernel
theorem dX9_placeOf_47 : decode cX9_placeOf 47 = .ok (.goto 4, 3) := by decide +kernel
theorem dX9_placeOf_50 : decode cX9_placeOf 50 = .ok (.iconst 0, 1) := by decide +kernel
theorem dX9_placeOf_51 : decode cX9_placeOf 51 = .ok (.iadd, 1) := by decide +kernel
theorem dX9_placeOf_52 : decode cX9_placeOf 52 = .ok (.istore_n 2, 1) := by decide +kernel
theorem dX9_placeOf_53 : decode cX9_placeOf 53 = .ok (.iinc 3 1, 3) := by decide +kernel
theorem dX9_placeOf_56 : decode cX9_placeOf 56 = .ok (.goto (-37), 3) := by decide +kernel
theorem dX9_placeOf_59 : decode cX9_placeOf 59 = .ok (.iload_n 2, 1) := by decide +kernel
theorem dX9_placeOf_60 : decode cX9_placeOf 60 = .ok (.ireturn, 1) := by decide +kernel
set_option maxRecDepth 20000 in
theorem ggX9_at_X9_hasHour : GoodIn wsX9_at wsX9_hasHour := goodIn_r _ [7, 8, 16, 17, 18, 19, 20, 21, 22, 23, 24, 25, 26, 27, 28, 29, 30, 31, 32, 33, 34, 35, 36, 37, 38, 39, 40, 41, 42, 43, 44, 45, 46, 47, 48, 49, 50, 51, 52, 53, 54, 55, 56, 57, 58, 59, 60, 61, 62, 63, 64, 65, 66, 67, 68, 69, 70, 71, 72, 73, 74, 75, 76, 77] (by decide +kernel) (by decide +kernel)
set_option maxRecDepth 20000 in
theorem gX9_at_X9_hasHour : GoodIn wsX9_at (wsV RX9 252 RX9 yX9_hasHour wsX9_hasHour) := goodIn_app (goodIn_of _ (by decide +kernel)) ggX9_at_X9_hasHour
set_option maxRecDepth 20000 in
theorem ggX9_at_X9_bookedAt : GoodIn wsX9_at wsX9_bookedAt := goodIn_r _ [12, 13, 14, 15, 16, 17, 18, 19, 20, 21, 22, 23, 24, 25, 26, 27, 28, 29, 30, 31, 32, 33, 34, 35, 36, 37, 38, 39, 40, 41, 42, 43, 44, 45, 46, 47, 48, 49, 50, 51, 52, 53, 54, 55, 56, 57, 58, 59, 60, 61, 62, 63, 64, 65, 66, 67, 68, 69, 70, 71, 72, 73, 74, 75, 76, 77] (by decide +kernel) (by decide +kernel)
set_option maxRecDepth 20000 in
theorem gX9_at_X9_bookedAt : GoodIn wsX9_at (wsV RX9 265 RX9 yX9_bookedAt wsX9_bookedAt) := goodIn_app (goodIn_of _ (by decide +kernel)) ggX9_at_X9_bookedAt
theorem dX9_at_0 : decode cX9_at 0 = .ok (.aload_n 0, 1) := by decide +kernel
theorem dX9_at_1 : decode cX9_at 1 = .ok (.iconst 0, 1) := by decide +kernel
theorem dX9_at_2 : decode cX9_at 2 = .ok (.putfield 1, 3) := by decide +kernel
theorem dX9_at_5 : decode cX9_at 5 = .ok (.iload_n 1, 1) := by decide +kernel
theorem dX9_at_6 : decode cX9_at 6 = .ok (.ifCond .lt 30, 3) := by decide +kernel
theorem dX9_at_9 : decode cX9_at 9 = .ok (.iload_n 1, 1) := by decide +kernel
theorem dX9_at_10 : decode cX9_at 10 = .ok (.bipush 59, 2) := by decide +kernel
theorem dX9_at_12 : decode cX9_at 12 = .ok (.if_icmp .gt 24, 3) := by decide +kernel
theorem dX9_at_15 : decode cX9_at 15 = .ok (.iload_n 2, 1) := by decide +kernel
theorem dX9_at_16 : decode cX9_at 16 = .ok (.ifCond .lt 20, 3) := by decide +kernel
theorem dX9_at_19 : decode cX9_at 19 = .ok (.iload_n 2, 1) := by decide +kernel
theorem dX9_at_20 : decode cX9_at 20 = .ok (.iconst 5, 1) := by decide +kernel
theorem dX9_at_21 : decode cX9_at 21 = .ok (.if_icmp .gt 15, 3) := by decide +kernel
theorem dX9_at_24 : decode cX9_at 24 = .ok (.iload_n 3, 1) := by decide +kernel
theorem dX9_at_25 : decode cX9_at 25 = .ok (.ifCond .lt 11, 3) := by decide +kernel
theorem dX9_at_28 : decode cX9_at 28 = .ok (.iload_n 3, 1) := by decide +kernel
theorem dX9_at_29 : decode cX9_at 29 = .ok (.aload_n 0, 1) := by decide +kernel
theorem dX9_at_30 : decode cX9_at 30 = .ok (.getfield 249, 3) := by decide +kernel
theorem dX9_at_33 : decode cX9_at 33 = .ok (.if_icmp .lt 6, 3) := by decide +kernel
theorem dX9_at_36 : decode cX9_at 36 = .ok (.bipush (-3), 2) := by decide +kernel
theorem dX9_at_38 : decode cX9_at 38 = .ok (.ireturn, 1) := by decide +kernel
theorem dX9_at_39 : decode cX9_at 39 = .ok (.aload_n 0, 1) := by decide +kernel
theorem dX9_at_40 : decode cX9_at 40 = .ok (.iload_n 3, 1) := by decide +kernel
theorem dX9_at_41 : decode cX9_at 41 = .ok (.iload_n 1, 1) := by decide +kernel
theorem dX9_at_42 : decode cX9_at 42 = .ok (.iload_n 2, 1) := by decide +kernel
theorem dX9_at_43 : decode cX9_at 43 = .ok (.invokevirtual 252, 3) := by decide +kernel
theorem dX9_at_46 : decode cX9_at 46 = .ok (.ifCond .ne 8, 3) := by decide +kernel
theorem dX9_at_49 : decode cX9_at 49 = .ok (.bipush (-2), 2) := by decide +kernel
theorem dX9_at_51 : decode cX9_at 51 = .ok (.goto 18, 3) := by decide +kernel
theorem dX9_at_54 : decode cX9_at 54 = .ok (.aload_n 0, 1) := by decide +kernel
theorem dX9_at_55 : decode cX9_at 55 = .ok (.bipush 48, 2) := by decide +kernel
theorem dX9_at_57 : decode cX9_at 57 = .ok (.iload_n 1, 1) := by decide +kernel
theorem dX9_at_58 : decode cX9_at 58 = .ok (.imul, 1) := by decide +kernel
theorem dX9_at_59 : decode cX9_at 59 = .ok (.bipush 8, 2) := by decide +kernel
theorem dX9_at_61 : decode cX9_at 61 = .ok (.iload_n 2, 1) := by decide +kernel
theorem dX9_at_62 : decode cX9_at 62 = .ok (.imul, 1) := by decide +kernel
theorem dX9_at_63 : decode cX9_at 63 = .ok (.iadd, 1) := by decide +kernel
theorem dX9_at_64 : decode cX9_at 64 = .ok (.iload_n 3, 1) := by decide +kernel
theorem dX9_at_65 : decode cX9_at 65 = .ok (.iadd, 1) := by decide +kernel
theorem dX9_at_66 : decode cX9_at 66 = .ok (.invokevirtual 265, 3) := by decide +kernel
theorem dX9_at_69 : decode cX9_at 69 = .ok (.ireturn, 1) := by decide +kernel
set_option maxRecDepth 20000 in
theorem ggX9_street_X9_streetsAt : GoodIn wsX9_street wsX9_streetsAt := goodIn_r _ [11, 2, 3, 4, 12, 13, 14, 15, 16, 17, 18, 19, 20, 21, 22, 23, 24, 25, 26, 27, 28, 29, 30, 31, 32, 33, 34, 35, 36, 37, 38, 39, 40, 41, 42, 43, 44, 45, 46, 47, 48, 49, 50, 51, 52, 53, 54, 55, 56, 57, 58, 59, 60, 61, 62, 63, 64, 65, 66, 67, 68, 69, 70, 71, 72, 73] (by decide +kernel) (by decide +kernel)
set_option maxRecDepth 20000 in
theorem gX9_street_X9_streetsAt : GoodIn wsX9_street (wsV RX9 314 RX9 yX9_streetsAt wsX9_streetsAt) := goodIn_app (goodIn_of _ (by decide +kernel)) ggX9_street_X9_streetsAt
theorem dX9_street_0 : decode cX9_street 0 = .ok (.aload_n 0, 1) := by decide +kernel
theorem dX9_street_1 : decode cX9_street 1 = .ok (.iconst 0, 1) := by decide +kernel
theorem dX9_street_2 : decode cX9_street 2 = .ok (.putfield 1, 3) := by decide +kernel
theorem dX9_street_5 : decode cX9_street 5 = .ok (.iload_n 1, 1) := by decide +kernel
theorem dX9_street_6 : decode cX9_street 6 = .ok (.ifCond .lt 75, 3) := by decide +kernel
theorem dX9_street_9 : decode cX9_street 9 = .ok (.iload_n 1, 1) := by decide +kernel
theorem dX9_street_10 : decode cX9_street 10 = .ok (.bipush 11, 2) := by decide +kernel
theorem dX9_street_12 : decode cX9_street 12 = .ok (.if_icmp .gt 69, 3) := by decide +kernel
theorem dX9_street_15 : decode cX9_street 15 = .ok (.iload_n 2, 1) := by decide +kernel
theorem dX9_street_16 : decode cX9_street 16 = .ok (.ifCond .lt 65, 3) := by decide +kernel
theorem dX9_street_19 : decode cX9_street 19 = .ok (.iload_n 2, 1) := by decide +kernel
theorem dX9_street_20 : decode cX9_street 20 = .ok (.bipush 11, 2) := by decide +kernel
theorem dX9_street_22 : decode cX9_street 22 = .ok (.if_icmp .gt 59, 3) := by decide +kernel
theorem dX9_street_25 : decode cX9_street 25 = .ok (.iload_n 1, 1) := by decide +kernel
theorem dX9_street_26 : decode cX9_street 26 = .ok (.iload_n 2, 1) := by decide +kernel
theorem dX9_street_27 : decode cX9_street 27 = .ok (.if_icmp .eq 54, 3) := by decide +kernel
theorem dX9_street_30 : decode cX9_street 30 = .ok (.iload_n 3, 1) := by decide +kernel
theorem dX9_street_31 : decode cX9_street 31 = .ok (.iconst 1, 1) := by decide +kernel
theorem dX9_street_32 : decode cX9_street 32 = .ok (.if_icmp .lt 49, 3) := by decide +kernel
theorem dX9_street_35 : decode cX9_street 35 = .ok (.iload_n 3, 1) := by decide +kernel
theorem dX9_street_36 : decode cX9_street 36 = .ok (.bipush 30, 2) := by decide +kernel
theorem dX9_street_38 : decode cX9_street 38 = .ok (.if_icmp .gt 43, 3) := by decide +kernel
theorem dX9_street_41 : decode cX9_street 41 = .ok (.iload 4, 2) := by decide +kernel
theorem dX9_street_43 : decode cX9_street 43 = .ok (.ifCond .lt 38, 3) := by decide +kernel
theorem dX9_street_46 : decode cX9_street 46 = .ok (.iload 4, 2) := by decide +kernel
theorem dX9_street_48 : decode cX9_street 48 = .ok (.sipush 255, 3) := by decide +kernel
theorem dX9_street_51 : decode cX9_street 51 = .ok (.if_icmp .gt 30, 3) := by decide +kernel
theorem dX9_street_54 : decode cX9_street 54 = .ok (.aload_n 0, 1) := by decide +kernel
theorem dX9_street_55 : decode cX9_street 55 = .ok (.getfield 311, 3) := by decide +kernel
theorem dX9_street_58 : decode cX9_street 58 = .ok (.bipush 24, 2) := by decide +kernel
theorem dX9_street_60 : decode cX9_street 60 = .ok (.if_icmp .eq 21, 3) := by decide +kernel
theorem dX9_street_63 : decode cX9_street 63 = .ok (.aload_n 0, 1) := by decide +kernel
theorem dX9_street_64 : decode cX9_street 64 = .ok (.iload_n 1, 1) := by decide +kernel
theorem dX9_street_65 : decode cX9_street 65 = .ok (.invokevirtual 314, 3) := by decide +kernel
theorem dX9_street_68 : decode cX9_street 68 = .ok (.iconst 4, 1) := by decide +kernel
theorem dX9_street_69 : decode cX9_street 69 = .ok (.if_icmp .eq 12, 3) := by decide +kernel
theorem dX9_street_72 : decode cX9_street 72 = .ok (.aload_n 0, 1) := by decide +kernel
theorem dX9_street_73 : decode cX9_street 73 = .ok (.iload_n 2, 1) := by decide +kernel
theorem dX9_street_74 : decode cX9_street 74 = .ok (.invokevirtual 314, 3) := by decide +kernel
theorem dX9_street_77 : decode cX9_street 77 = .ok (.iconst 4, 1) := by decide +kernel
theorem dX9_street_78 : decode cX9_street 78 = .ok (.if_icmp .ne 5, 3) := by decide +kernel
theorem dX9_street_81 : decode cX9_street 81 = .ok (.iconst (-1), 1) := by decide +kernel
theorem dX9_street_82 : decode cX9_street 82 = .ok (.ireturn, 1) := by decide +kernel
theorem dX9_street_83 : decode cX9_street 83 = .ok (.aload_n 0, 1) := by decide +kernel
theorem dX9_street_84 : decode cX9_street 84 = .ok (.getfield 137, 3) := by decide +kernel
theorem dX9_street_87 : decode cX9_street 87 = .ok (.aload_n 0, 1) := by decide +kernel
theorem dX9_street_88 : decode cX9_street 88 = .ok (.getfield 311, 3) := by decide +kernel
theorem dX9_street_91 : decode cX9_street 91 = .ok (.iload_n 1, 1) := by decide +kernel
theorem dX9_street_92 : decode cX9_street 92 = .ok (.iastore, 1) := by decide +kernel
theorem dX9_street_93 : decode cX9_street 93 = .ok (.aload_n 0, 1) := by decide +kernel
theorem dX9_street_94 : decode cX9_street 94 = .ok (.getfield 140, 3) := by decide +kernel
theorem dX9_street_97 : decode cX9_street 97 = .ok (.aload_n 0, 1) := by decide +kernel
theorem dX9_street_98 : decode cX9_street 98 = .ok (.getfield 311, 3) := by decide +kernel
theorem dX9_street_101 : decode cX9_street 101 = .ok (.iload_n 2, 1) := by decide +kernel
theorem dX9_street_102 : decode cX9_street 102 = .ok (.iastore, 1) := by decide +kernel
theorem dX9_street_103 : decode cX9_street 103 = .ok (.aload_n 0, 1) := by decide +kernel
theorem dX9_street_104 : decode cX9_street 104 = .ok (.getfield 143, 3) := by decide +kernel
theorem dX9_street_107 : decode cX9_street 107 = .ok (.aload_n 0, 1) := by decide +kernel
theorem dX9_street_108 : decode cX9_street 108 = .ok (.getfield 311, 3) := by decide +kernel
theorem dX9_street_111 : decode cX9_street 111 = .ok (.iload_n 3, 1) := by decide +kernel
theorem dX9_street_112 : decode cX9_street 112 = .ok (.iastore, 1) := by decide +kernel
theorem dX9_street_113 : decode cX9_street 113 = .ok (.aload_n 0, 1) := by decide +kernel
theorem dX9_street_114 : decode cX9_street 114 = .ok (.getfield 146, 3) := by decide +kernel
theorem dX9_street_117 : decode cX9_street 117 = .ok (.aload_n 0, 1) := by decide +kernel
theorem dX9_street_118 : decode cX9_street 118 = .ok (.getfield 311, 3) := by decide +kernel
theorem dX9_street_121 : decode cX9_street 121 = .ok (.iload 4, 2) := by decide +kernel
theorem dX9_street_123 : decode cX9_street 123 = .ok (.iastore, 1) := by decide +kernel
theorem dX9_street_124 : decode cX9_street 124 = .ok (.aload_n 0, 1) := by decide +kernel
theorem dX9_street_125 : decode cX9_street 125 = .ok (.dup, 1) := by decide +kernel
theorem dX9_street_126 : decode cX9_street 126 = .ok (.getfield 311, 3) := by decide +kernel
theorem dX9_street_129 : decode cX9_street 129 = .ok (.iconst 1, 1) := by decide +kernel
theorem dX9_street_130 : decode cX9_street 130 = .ok (.iadd, 1) := by decide +kernel
theorem dX9_street_131 : decode cX9_street 131 = .ok (.putfield 311, 3) := by decide +kernel
theorem dX9_street_134 : decode cX9_street 134 = .ok (.aload_n 0, 1) := by decide +kernel
theorem dX9_street_135 : decode cX9_street 135 = .ok (.getfield 311, 3) := by decide +kernel
theorem dX9_street_138 : decode cX9_street 138 = .ok (.iconst 1, 1) := by decide +kernel
theorem dX9_street_139 : decode cX9_street 139 = .ok (.isub, 1) := by decide +kernel
theorem dX9_street_140 : decode cX9_street 140 = .ok (.ireturn, 1) := by decide +kernel
theorem dX9_streetsAt_0 : decode cX9_streetsAt 0 = .ok (.iconst 0, 1) := by decide +kernel
theorem dX9_streetsAt_1 : decode cX9_streetsAt 1 = .ok (.istore_n 2, 1) := by decide +kernel
theorem dX9_streetsAt_2 : decode cX9_streetsAt 2 = .ok (.iconst 0, 1) := by decide +kernel
theorem dX9_streetsAt_3 : decode cX9_streetsAt 3 = .ok (.istore_n 3, 1) := by decide +kernel
theorem dX9_streetsAt_4 : decode cX9_streetsAt 4 = .ok (.iload_n 3, 1) := by decide +kernel
theorem dX9_streetsAt_5 : decode cX9_streetsAt 5 = .ok (.aload_n 0, 1) := by decide +kernel
theorem dX9_streetsAt_6 : decode cX9_streetsAt 6 = .ok (.getfield 311, 3) := by decide +kernel
theorem dX9_streetsAt_9 : decode cX9_streetsAt 9 = .ok (.if_icmp .ge 37, 3) := by decide +kernel
theorem dX9_streetsAt_12 : decode cX9_streetsAt 12 = .ok (.iload_n 2, 1) := by decide +kernel
theorem dX9_streetsAt_13 : decode cX9_streetsAt 13 = .ok (.aload_n 0, 1) := by decide +kernel
theorem dX9_streetsAt_14 : decode cX9_streetsAt 14 = .ok (.getfield 137, 3) := by decide +kernel
theorem dX9_streetsAt_17 : decode cX9_streetsAt 17 = .ok (.iload_n 3, 1) := by decide +kernel
theorem dX9_streetsAt_18 : decode cX9_streetsAt 18 = .ok (.iaload, 1) := by decide +kernel
theorem dX9_streetsAt_19 : decode cX9_streetsAt 19 = .ok (.iload_n 1, 1) := by decide +kernel
theorem dX9_streetsAt_20 : decode cX9_streetsAt 20 = .ok (.if_icmp .eq 13, 3) := by decide +kernel
theorem dX9_streetsAt_23 : decode cX9_streetsAt 23 = .ok (.aload_n 0, 1) := by decide +kernel
theorem dX9_streetsAt_24 : decode cX9_streetsAt 24 = .ok (.getfield 140, 3) := by decide +kernel
theorem dX9_streetsAt_27 : decode cX9_streetsAt 27 = .ok (.iload_n 3, 1) := by decide +kernel
theorem dX9_streetsAt_28 : decode cX9_streetsAt 28 = .ok (.iaload, 1) := by decide +kernel
theorem dX9_streetsAt_29 : decode cX9_streetsAt 29 = .ok (.iload_n 1, 1) := by decide +kernel
theorem dX9_streetsAt_30 : decode cX9_streetsAt 30 = .ok (.if_icmp .ne 7, 3) := by decide +kernel
theorem dX9_streetsAt_33 : decode cX9_streetsAt 33 = .ok (.iconst 1, 1) := by decide +kernel
theorem dX9_streetsAt_34 : decode cX9_streetsAt 34 = .ok (.goto 4, 3) := by decide +kernel
theorem dX9_streetsAt_37 : decode cX9_streetsAt 37 = .ok (.iconst 0, 1) := by decide +kernel
theorem dX9_streetsAt_38 : decode cX9_streetsAt 38 = .ok (.iadd, 1) := by decide +kernel
theorem dX9_streetsAt_39 : decode cX9_streetsAt 39 = .ok (.istore_n 2, 1) := by decide +kernel
theorem dX9_streetsAt_40 : decode cX9_streetsAt 40 = .ok (.iinc 3 1, 3) := by decide +kernel
theorem dX9_streetsAt_43 : decode cX9_streetsAt 43 = .ok (.goto (-39), 3) := by decide +kernel
theorem dX9_streetsAt_46 : decode cX9_streetsAt 46 = .ok (.iload_n 2, 1) := by decide +kernel
theorem dX9_streetsAt_47 : decode cX9_streetsAt 47 = .ok (.ireturn, 1) := by decide +kernel
theorem dX9_close_0 : decode cX9_close 0 = .ok (.aload_n 0, 1) := by decide +kernel
theorem dX9_close_1 : decode cX9_close 1 = .ok (.iconst 0, 1) := by decide +kernel
theorem dX9_close_2 : decode cX9_close 2 = .ok (.putfield 1, 3) := by decide +kernel
theorem dX9_close_5 : decode cX9_close 5 = .ok (.iload_n 1, 1) := by decide +kernel
theorem dX9_close_6 : decode cX9_close 6 = .ok (.ifCond .lt 11, 3) := by decide +kernel
theorem dX9_close_9 : decode cX9_close 9 = .ok (.iload_n 1, 1) := by decide +kernel
theorem dX9_close_10 : decode cX9_close 10 = .ok (.aload_n 0, 1) := by decide +kernel
theorem dX9_close_11 : decode cX9_close 11 = .ok (.getfield 311, 3) := by decide +kernel
theorem dX9_close_14 : decode cX9_close 14 = .ok (.if_icmp .lt 5, 3) := by decide +kernel
theorem dX9_close_17 : decode cX9_close 17 = .ok (.iconst 0, 1) := by decide +kernel
theorem dX9_close_18 : decode cX9_close 18 = .ok (.ireturn, 1) := by decide +kernel
theorem dX9_close_19 : decode cX9_close 19 = .ok (.aload_n 0, 1) := by decide +kernel
theorem dX9_close_20 : decode cX9_close 20 = .ok (.getfield 149, 3) := by decide +kernel
theorem dX9_close_23 : decode cX9_close 23 = .ok (.iload_n 1, 1) := by decide +kernel
theorem dX9_close_24 : decode cX9_close 24 = .ok (.iload_n 2, 1) := by decide +kernel
theorem dX9_close_25 : decode cX9_close 25 = .ok (.bastore, 1) := by decide +kernel
theorem dX9_close_26 : decode cX9_close 26 = .ok (.iconst 1, 1) := by decide +kernel
theorem dX9_close_27 : decode cX9_close 27 = .ok (.ireturn, 1) := by decide +kernel
set_option maxRecDepth 20000 in
theorem ggX9_goes_X9_ends : GoodIn wsX9_goes wsX9_ends := goodIn_r _ [14, 1, 15, 16, 17, 18, 19, 20, 21, 22, 7, 26, 27, 28, 29, 30, 31, 32, 33, 34, 35, 36, 37, 38, 39, 40, 41, 42, 43, 44, 45, 46, 47, 48, 49, 50, 51, 52, 53, 54, 55, 56, 57, 58, 59, 60, 61, 62, 63, 64, 65, 66, 67, 68, 69, 70, 71, 72, 73, 74, 75, 76, 77, 78, 79, 80, 81, 82, 83, 84, 85, 86, 87] (by decide +kernel) (by decide +kernel)
set_option maxRecDepth 20000 in
theorem gX9_goes_X9_ends : GoodIn wsX9_goes (wsV RX9 320 RX9 yX9_ends wsX9_ends) := goodIn_app (goodIn_of _ (by decide +kernel)) ggX9_goes_X9_ends
set_option maxRecDepth 20000 in
theorem ggX9_goes_X9_goes : GoodIn wsX9_goes wsX9_goes := goodIn_r _ [0, 1, 2, 3, 4, 5, 6, 7, 8, 9, 10, 11, 12, 13, 14, 15, 16, 17, 18, 19, 20, 21, 22, 23, 24, 25, 26, 27, 28, 29, 30, 31, 32, 33, 34, 35, 36, 37, 38, 39, 40, 41, 42, 43, 44, 45, 46, 47, 48, 49, 50, 51, 52, 53, 54, 55, 56, 57, 58, 59, 60, 61, 62, 63, 64, 65, 66, 67, 68, 69, 70, 71, 72, 73, 74, 75, 76, 77, 78, 79, 80, 81, 82, 83, 84, 85, 86, 87] (by decide +kernel) (by decide +kernel)
set_option maxRecDepth 20000 in
theorem gX9_goes_X9_goes : GoodIn wsX9_goes (wsV RX9 323 RX9 yX9_goes wsX9_goes) := goodIn_app (goodIn_of _ (by decide +kernel)) ggX9_goes_X9_goes
theorem dX9_goes_0 : decode cX9_goes 0 = .ok (.iload_n 1, 1) := by decide +kernel
theorem dX9_goes_1 : decode cX9_goes 1 = .ok (.ifCond .ne 17, 3) := by decide +kernel
theorem dX9_goes_4 : decode cX9_goes 4 = .ok (.aload_n 0, 1) := by decide +kernel
theorem dX9_goes_5 : decode cX9_goes 5 = .ok (.getfield 317, 3) := by decide +kernel
theorem dX9_goes_8 : decode cX9_goes 8 = .ok (.ifCond .le 10, 3) := by decide +kernel
theorem dX9_goes_11 : decode cX9_goes 11 = .ok (.aload_n 0, 1) := by decide +kernel
theorem dX9_goes_12 : decode cX9_goes 12 = .ok (.iload_n 2, 1) := by decide +kernel
theorem dX9_goes_13 : decode cX9_goes 13 = .ok (.iload_n 3, 1) := by decide +kernel
theorem dX9_goes_14 : decode cX9_goes 14 = .ok (.invokevirtual 320, 3) := by decide +kernel
theorem dX9_goes_17 : decode cX9_goes 17 = .ok (.return_, 1) := by decide +kernel
theorem dX9_goes_18 : decode cX9_goes 18 = .ok (.iconst 0, 1) := by decide +kernel
theorem dX9_goes_19 : decode cX9_goes 19 = .ok (.istore 4, 2) := by decide +kernel
theorem dX9_goes_21 : decode cX9_goes 21 = .ok (.iload 4, 2) := by decide +kernel
theorem dX9_goes_23 : decode cX9_goes 23 = .ok (.aload_n 0, 1) := by decide +kernel
theorem dX9_goes_24 : decode cX9_goes 24 = .ok (.getfield 311, 3) := by decide +kernel
theorem dX9_goes_27 : decode cX9_goes 27 = .ok (.if_icmp .ge 157, 3) := by decide +kernel
theorem dX9_goes_30 : decode cX9_goes 30 = .ok (.aload_n 0, 1) := by decide +kernel
theorem dX9_goes_31 : decode cX9_goes 31 = .ok (.getfield 317, 3) := by decide +kernel
theorem dX9_goes_34 : decode cX9_goes 34 = .ok (.bipush 8, 2) := by decide +kernel
theorem dX9_goes_36 : decode cX9_goes 36 = .ok (.if_icmp .ge 148, 3) := by decide +kernel
theorem dX9_goes_39 : decode cX9_goes 39 = .ok (.aload_n 0, 1) := by decide +kernel
theorem dX9_goes_40 : decode cX9_goes 40 = .ok (.getfield 149, 3) := by decide +kernel
theorem dX9_goes_43 : decode cX9_goes 43 = .ok (.iload 4, 2) := by decide +kernel
theorem dX9_goes_45 : decode cX9_goes 45 = .ok (.baload, 1) := by decide +kernel
theorem dX9_goes_46 : decode cX9_goes 46 = .ok (.ifCond .ne 132, 3) := by decide +kernel
theorem dX9_goes_49 : decode cX9_goes 49 = .ok (.aload_n 0, 1) := by decide +kernel
theorem dX9_goes_50 : decode cX9_goes 50 = .ok (.getfield 152, 3) := by decide +kernel
theorem dX9_goes_53 : decode cX9_goes 53 = .ok (.iload 4, 2) := by decide +kernel
theorem dX9_goes_55 : decode cX9_goes 55 = .ok (.baload, 1) := by decide +kernel
theorem dX9_goes_56 : decode cX9_goes 56 = .ok (.ifCond .ne 122, 3) := by decide +kernel
theorem dX9_goes_59 : decode cX9_goes 59 = .ok (.aload_n 0, 1) := by decide +kernel
theorem dX9_goes_60 : decode cX9_goes 60 = .ok (.getfield 137, 3) := by decide +kernel
theorem dX9_goes_63 : decode cX9_goes 63 = .ok (.iload 4, 2) := by decide +kernel
theorem dX9_goes_65 : decode cX9_goes 65 = .ok (.iaload, 1) := by decide +kernel
theorem dX9_goes_66 : decode cX9_goes 66 = .ok (.iload_n 1, 1) := by decide +kernel
theorem dX9_goes_67 : decode cX9_goes 67 = .ok (.if_icmp .eq 14, 3) := by decide +kernel
theorem dX9_goes_70 : decode cX9_goes 70 = .ok (.aload_n 0, 1) := by decide +kernel
theorem dX9_goes_71 : decode cX9_goes 71 = .ok (.getfield 140, 3) := by decide +kernel
theorem dX9_goes_74 : decode cX9_goes 74 = .ok (.iload 4, 2) := by decide +kernel
theorem dX9_goes_76 : decode cX9_goes 76 = .ok (.iaload, 1) := by decide +kernel
theorem dX9_goes_77 : decode cX9_goes 77 = .ok (.iload_n 1, 1) := by decide +kernel
theorem dX9_goes_78 : decode cX9_goes 78 = .ok (.if_icmp .ne 100, 3) := by decide +kernel
theorem dX9_goes_81 : decode cX9_goes 81 = .ok (.aload_n 0, 1) := by decide +kernel
theorem dX9_goes_82 : decode cX9_goes 82 = .ok (.getfield 152, 3) := by decide +kernel
theorem dX9_goes_85 : decode cX9_goes 85 = .ok (.iload 4, 2) := by decide +kernel
theorem dX9_goes_87 : decode cX9_goes 87 = .ok (.iconst 1, 1) := by decide +kernel
theorem dX9_goes_88 : decode cX9_goes 88 = .ok (.bastore, 1) := by decide +kernel
theorem dX9_goes_89 : decode cX9_goes 89 = .ok (.aload_n 0, 1) := by decide +kernel
theorem dX9_goes_90 : decode cX9_goes 90 = .ok (.getfield 155, 3) := by decide +kernel
theorem dX9_goes_93 : decode cX9_goes 93 = .ok (.aload_n 0, 1) := by decide +kernel
theorem dX9_goes_94 : decode cX9_goes 94 = .ok (.getfield 317, 3) := by decide +kernel
theorem dX9_goes_97 : decode cX9_goes 97 = .ok (.iload 4, 2) := by decide +kernel
theorem dX9_goes_99 : decode cX9_goes 99 = .ok (.iastore, 1) := by decide +kernel
theorem dX9_goes_100 : decode cX9_goes 100 = .ok (.aload_n 0, 1) := by decide +kernel
theorem dX9_goes_101 : decode cX9_goes 101 = .ok (.dup, 1) := by decide +kernel
theorem dX9_goes_102 : decode cX9_goes 102 = .ok (.getfield 317, 3) := by decide +kernel
theorem dX9_goes_105 : decode cX9_goes 105 = .ok (.iconst 1, 1) := by decide +kernel
theorem dX9_goes_106 : decode cX9_goes 106 = .ok (.iadd, 1) := by decide +kernel
theorem dX9_goes_107 : decode cX9_goes 107 = .ok (.putfield 317, 3) := by decide +kernel
theorem dX9_goes_110 : decode cX9_goes 110 = .ok (.aload_n 0, 1) := by decide +kernel
theorem dX9_goes_111 : decode cX9_goes 111 = .ok (.aload_n 0, 1) := by decide +kernel
theorem dX9_goes_112 : decode cX9_goes 112 = .ok (.getfield 137, 3) := by decide +kernel
theorem dX9_goes_115 : decode cX9_goes 115 = .ok (.iload 4, 2) := by decide +kernel
theorem dX9_goes_117 : decode cX9_goes 117 = .ok (.iaload, 1) := by decide +kernel
theorem dX9_goes_118 : decode cX9_goes 118 = .ok (.iload_n 1, 1) := by decide +kernel
theorem dX9_goes_119 : decode cX9_goes 119 = .ok (.if_icmp .ne 13, 3) := by decide +kernel
theorem dX9_goes_122 : decode cX9_goes 122 = .ok (.aload_n 0, 1) := by decide +kernel
theorem dX9_goes_123 : decode cX9_goes 123 = .ok (.getfield 140, 3) := by decide +kernel
theorem dX9_goes_126 : decode cX9_goes 126 = .ok (.iload 4, 2) := by decide +kernel
theorem dX9_goes_128 : decode cX9_goes 128 = .ok (.iaload, 1) := by decide +kernel
theorem dX9_goes_129 : decode cX9_goes 129 = .ok (.goto 10, 3) := by decide +kernel
theorem dX9_goes_132 : decode cX9_goes 132 = .ok (.aload_n 0, 1) := by decide +kernel
theorem dX9_goes_133 : decode cX9_goes 133 = .ok (.getfield 137, 3) := by decide +kernel
theorem dX9_goes_136 : decode cX9_goes 136 = .ok (.iload 4, 2) := by decide +kernel
theorem dX9_goes_138 : decode cX9_goes 138 = .ok (.iaload, 1) := by decide +kernel
theorem dX9_goes_139 : decode cX9_goes 139 = .ok (.iload_n 2, 1) := by decide +kernel
theorem dX9_goes_140 : decode cX9_goes 140 = .ok (.aload_n 0, 1) := by decide +kernel
theorem dX9_goes_141 : decode cX9_goes 141 = .ok (.getfield 143, 3) := by decide +kernel
theorem dX9_goes_144 : decode cX9_goes 144 = .ok (.iload 4, 2) := by decide +kernel
theorem dX9_goes_146 : decode cX9_goes 146 = .ok (.iaload, 1) := by decide +kernel
theorem dX9_goes_147 : decode cX9_goes 147 = .ok (.iadd, 1) := by decide +kernel
theorem dX9_goes_148 : decode cX9_goes 148 = .ok (.iload_n 3, 1) := by decide +kernel
theorem dX9_goes_149 : decode cX9_goes 149 = .ok (.aload_n 0, 1) := by decide +kernel
theorem dX9_goes_150 : decode cX9_goes 150 = .ok (.getfield 146, 3) := by decide +kernel
theorem dX9_goes_153 : decode cX9_goes 153 = .ok (.iload 4, 2) := by decide +kernel
theorem dX9_goes_155 : decode cX9_goes 155 = .ok (.iaload, 1) := by decide +kernel
theorem dX9_goes_156 : decode cX9_goes 156 = .ok (.ior, 1) := by decide +kernel
theorem dX9_goes_157 : decode cX9_goes 157 = .ok (.invokevirtual 323, 3) := by decide +kernel
theorem dX9_goes_160 : decode cX9_goes 160 = .ok (.aload_n 0, 1) := by decide +kernel
theorem dX9_goes_161 : decode cX9_goes 161 = .ok (.dup, 1) := by decide +kernel
theorem dX9_goes_162 : decode cX9_goes 162 = .ok (.getfield 317, 3) := by decide +kernel
theorem dX9_goes_165 : decode cX9_goes 165 = .ok (.iconst 1, 1) := by decide +kernel
theorem dX9_goes_166 : decode cX9_goes 166 = .ok (.isub, 1) := by decide +kernel
theorem dX9_goes_167 : decode cX9_goes 167 = .ok (.putfield 317, 3) := by decide +kernel
theorem dX9_goes_170 : decode cX9_goes 170 = .ok (.aload_n 0, 1) := by decide +kernel
theorem dX9_goes_171 : decode cX9_goes 171 = .ok (.getfield 152, 3) := by decide +kernel
theorem dX9_goes_174 : decode cX9_goes 174 = .ok (.iload 4, 2) := by decide +kernel
theorem dX9_goes_176 : decode cX9_goes 176 = .ok (.iconst 0, 1) := by decide +kernel
theorem dX9_goes_177 : decode cX9_goes 177 = .ok (.bastore, 1) := by decide +kernel
theorem dX9_goes_178 : decode cX9_goes 178 = .ok (.iinc 4 1, 3) := by decide +kernel
theorem dX9_goes_181 : decode cX9_goes 181 = .ok (.goto (-160), 3) := by decide +kernel
theorem dX9_goes_184 : decode cX9_goes 184 = .ok (.return_, 1) := by decide +kernel
theorem dX9_ends_0 : decode cX9_ends 0 = .ok (.aload_n 0, 1) := by decide +kernel
theorem dX9_ends_1 : decode cX9_ends 1 = .ok (.getfield 317, 3) := by decide +kernel
theorem dX9_ends_4 : decode cX9_ends 4 = .ok (.iconst 2, 1) := by decide +kernel
theorem dX9_ends_5 : decode cX9_ends 5 = .ok (.if_icmp .lt 32, 3) := by decide +kernel
theorem dX9_ends_8 : decode cX9_ends 8 = .ok (.iload_n 1, 1) := by decide +kernel
theorem dX9_ends_9 : decode cX9_ends 9 = .ok (.aload_n 0, 1) := by decide +kernel
theorem dX9_ends_10 : decode cX9_ends 10 = .ok (.getfield 327, 3) := by decide +kernel
theorem dX9_ends_13 : decode cX9_ends 13 = .ok (.if_icmp .lt 24, 3) := by decide +kernel
theorem dX9_ends_16 : decode cX9_ends 16 = .ok (.iload_n 1, 1) := by decide +kernel
theorem dX9_ends_17 : decode cX9_ends 17 = .ok (.aload_n 0, 1) := by decide +kernel
theorem dX9_ends_18 : decode cX9_ends 18 = .ok (.getfield 330, 3) := by decide +kernel
theorem dX9_ends_21 : decode cX9_ends 21 = .ok (.if_icmp .gt 16, 3) := by decide +kernel
theorem dX9_ends_24 : decode cX9_ends 24 = .ok (.iload_n 2, 1) := by decide +kernel
theorem dX9_ends_25 : decode cX9_ends 25 = .ok (.aload_n 0, 1) := by decide +kernel
theorem dX9_ends_26 : decode cX9_ends 26 = .ok (.getfield 333, 3) := by decide +kernel
theorem dX9_ends_29 : decode cX9_ends 29 = .ok (.iand, 1) := by decide +kernel
theorem dX9_ends_30 : decode cX9_ends 30 = .ok (.aload_n 0, 1) := by decide +kernel
theorem dX9_ends_31 : decode cX9_ends 31 = .ok (.getfield 333, 3) := by decide +kernel
theorem dX9_ends_34 : decode cX9_ends 34 = .ok (.if_icmp .eq 4, 3) := by decide +kernel
theorem dX9_ends_37 : decode cX9_ends 37 = .ok (.return_, 1) := by decide +kernel
theorem dX9_ends_38 : decode cX9_ends 38 = .ok (.aload_n 0, 1) := by decide +kernel
theorem dX9_ends_39 : decode cX9_ends 39 = .ok (.getfield 336, 3) := by decide +kernel
theorem dX9_ends_42 : decode cX9_ends 42 = .ok (.aload_n 0, 1) := by decide +kernel
theorem dX9_ends_43 : decode cX9_ends 43 = .ok (.getfield 339, 3) := by decide +kernel
theorem dX9_ends_46 : decode cX9_ends 46 = .ok (.if_icmp .ne 44, 3) := by decide +kernel
theorem dX9_ends_49 : decode cX9_ends 49 = .ok (.aload_n 0, 1) := by decide +kernel
theorem dX9_ends_50 : decode cX9_ends 50 = .ok (.aload_n 0, 1) := by decide +kernel
theorem dX9_ends_51 : decode cX9_ends 51 = .ok (.getfield 317, 3) := by decide +kernel
theorem dX9_ends_54 : decode cX9_ends 54 = .ok (.putfield 342, 3) := by decide +kernel
theorem dX9_ends_57 : decode cX9_ends 57 = .ok (.aload_n 0, 1) := by decide +kernel
theorem dX9_ends_58 : decode cX9_ends 58 = .ok (.iload_n 1, 1) := by decide +kernel
theorem dX9_ends_59 : decode cX9_ends 59 = .ok (.putfield 345, 3) := by decide +kernel
theorem dX9_ends_62 : decode cX9_ends 62 = .ok (.iconst 0, 1) := by decide +kernel
theorem dX9_ends_63 : decode cX9_ends 63 = .ok (.istore_n 3, 1) := by decide +kernel
theorem dX9_ends_64 : decode cX9_ends 64 = .ok (.iload_n 3, 1) := by decide +kernel
theorem dX9_ends_65 : decode cX9_ends 65 = .ok (.aload_n 0, 1) := by decide +kernel
theorem dX9_ends_66 : decode cX9_ends 66 = .ok (.getfield 317, 3) := by decide +kernel
theorem dX9_ends_69 : decode cX9_ends 69 = .ok (.if_icmp .ge 21, 3) := by decide +kernel
theorem dX9_ends_72 : decode cX9_ends 72 = .ok (.aload_n 0, 1) := by decide +kernel
theorem dX9_ends_73 : decode cX9_ends 73 = .ok (.getfield 158, 3) := by decide +kernel
theorem dX9_ends_76 : decode cX9_ends 76 = .ok (.iload_n 3, 1) := by decide +kernel
theorem dX9_ends_77 : decode cX9_ends 77 = .ok (.aload_n 0, 1) := by decide +kernel
theorem dX9_ends_78 : decode cX9_ends 78 = .ok (.getfield 155, 3) := by decide +kernel
theorem dX9_ends_81 : decode cX9_ends 81 = .ok (.iload_n 3, 1) := by decide +kernel
theorem dX9_ends_82 : decode cX9_ends 82 = .ok (.iaload, 1) := by decide +kernel
theorem dX9_ends_83 : decode cX9_ends 83 = .ok (.iastore, 1) := by decide +kernel
theorem dX9_ends_84 : decode cX9_ends 84 = .ok (.iinc 3 1, 3) := by decide +kernel
theorem dX9_ends_87 : decode cX9_ends 87 = .ok (.goto (-23), 3) := by decide +kernel
theorem dX9_ends_90 : decode cX9_ends 90 = .ok (.aload_n 0, 1) := by decide +kernel
theorem dX9_ends_91 : decode cX9_ends 91 = .ok (.dup, 1) := by decide +kernel
theorem dX9_ends_92 : decode cX9_ends 92 = .ok (.getfield 336, 3) := by decide +kernel
theorem dX9_ends_95 : decode cX9_ends 95 = .ok (.iconst 1, 1) := by decide +kernel
theorem dX9_ends_96 : decode cX9_ends 96 = .ok (.iadd, 1) := by decide +kernel
theorem dX9_ends_97 : decode cX9_ends 97 = .ok (.putfield 336, 3) := by decide +kernel
theorem dX9_ends_100 : decode cX9_ends 100 = .ok (.return_, 1) := by decide +kernel
set_option maxRecDepth 20000 in
theorem ggX9_countAll_X9_goes : GoodIn wsX9_countAll wsX9_goes := goodIn_r _ [11, 6, 12, 13, 14, 15, 16, 17, 18, 19, 20, 21, 22, 10, 23, 1, 2, 3, 5, 4, 24, 25, 26, 7, 8, 9, 27, 28, 29, 30, 31, 32, 33, 34, 35, 36, 37, 38, 39, 40, 41, 42, 43, 44, 45, 46, 47, 48, 49, 50, 51, 52, 53, 54, 55, 56, 57, 58, 59, 60, 61, 62, 63, 64, 65, 66, 67, 68, 69, 70, 71, 72, 73, 74, 75, 76, 77, 78, 79, 80, 81, 82, 83, 84, 85, 86, 87, 88] (by decide +kernel) (by decide +kernel)
set_option maxRecDepth 20000 in
theorem gX9_countAll_X9_goes : GoodIn wsX9_countAll (wsV RX9 323 RX9 yX9_goes wsX9_goes) := goodIn_app (goodIn_of _ (by decide +kernel)) ggX9_countAll_X9_goes
theorem dX9_countAll_0 : decode cX9_countAll 0 = .ok (.aload_n 0, 1) := by decide +kernel
theorem dX9_countAll_1 : decode cX9_countAll 1 = .ok (.iload_n 1, 1) := by decide +kernel
theorem dX9_countAll_2 : decode cX9_countAll 2 = .ok (.putfield 327, 3) := by decide +kernel
theorem dX9_countAll_5 : decode cX9_countAll 5 = .ok (.aload_n 0, 1) := by decide +kernel
theorem dX9_countAll_6 : decode cX9_countAll 6 = .ok (.iload_n 2, 1) := by decide +kernel
theorem dX9_countAll_7 : decode cX9_countAll 7 = .ok (.putfield 330, 3) := by decide +kernel
theorem dX9_countAll_10 : decode cX9_countAll 10 = .ok (.aload_n 0, 1) := by decide +kernel
theorem dX9_countAll_11 : decode cX9_countAll 11 = .ok (.iload_n 3, 1) := by decide +kernel
theorem dX9_countAll_12 : decode cX9_countAll 12 = .ok (.putfield 333, 3) := by decide +kernel
theorem dX9_countAll_15 : decode cX9_countAll 15 = .ok (.aload_n 0, 1) := by decide +kernel
theorem dX9_countAll_16 : decode cX9_countAll 16 = .ok (.iload 4, 2) := by decide +kernel
theorem dX9_countAll_18 : decode cX9_countAll 18 = .ok (.putfield 339, 3) := by decide +kernel
theorem dX9_countAll_21 : decode cX9_countAll 21 = .ok (.aload_n 0, 1) := by decide +kernel
theorem dX9_countAll_22 : decode cX9_countAll 22 = .ok (.iconst 0, 1) := by decide +kernel
theorem dX9_countAll_23 : decode cX9_countAll 23 = .ok (.putfield 336, 3) := by decide +kernel
theorem dX9_countAll_26 : decode cX9_countAll 26 = .ok (.aload_n 0, 1) := by decide +kernel
theorem dX9_countAll_27 : decode cX9_countAll 27 = .ok (.iconst 0, 1) := by decide +kernel
theorem dX9_countAll_28 : decode cX9_countAll 28 = .ok (.putfield 317, 3) := by decide +kernel
theorem dX9_countAll_31 : decode cX9_countAll 31 = .ok (.aload_n 0, 1) := by decide +kernel
theorem dX9_countAll_32 : decode cX9_countAll 32 = .ok (.iconst 0, 1) := by decide +kernel
theorem dX9_countAll_33 : decode cX9_countAll 33 = .ok (.iconst 0, 1) := by decide +kernel
theorem dX9_countAll_34 : decode cX9_countAll 34 = .ok (.iconst 0, 1) := by decide +kernel
theorem dX9_countAll_35 : decode cX9_countAll 35 = .ok (.invokevirtual 323, 3) := by decide +kernel
theorem dX9_countAll_38 : decode cX9_countAll 38 = .ok (.aload_n 0, 1) := by decide +kernel
theorem dX9_countAll_39 : decode cX9_countAll 39 = .ok (.getfield 336, 3) := by decide +kernel
theorem dX9_countAll_42 : decode cX9_countAll 42 = .ok (.ireturn, 1) := by decide +kernel
theorem dX9_areNumbers_0 : decode cX9_areNumbers 0 = .ok (.iload_n 0, 1) := by decide +kernel
theorem dX9_areNumbers_1 : decode cX9_areNumbers 1 = .ok (.ifCond .lt 36, 3) := by decide +kernel
theorem dX9_areNumbers_4 : decode cX9_areNumbers 4 = .ok (.iload_n 0, 1) := by decide +kernel
theorem dX9_areNumbers_5 : decode cX9_areNumbers 5 = .ok (.sipush 240, 3) := by decide +kernel
theorem dX9_areNumbers_8 : decode cX9_areNumbers 8 = .ok (.if_icmp .gt 29, 3) := by decide +kernel
theorem dX9_areNumbers_11 : decode cX9_areNumbers 11 = .ok (.iload_n 1, 1) := by decide +kernel
theorem dX9_areNumbers_12 : decode cX9_areNumbers 12 = .ok (.ifCond .lt 25, 3) := by decide +kernel
theorem dX9_areNumbers_15 : decode cX9_areNumbers 15 = .ok (.iload_n 1, 1) := by decide +kernel
theorem dX9_areNumbers_16 : decode cX9_areNumbers 16 = .ok (.sipush 240, 3) := by decide +kernel
theorem dX9_areNumbers_19 : decode cX9_areNumbers 19 = .ok (.if_icmp .gt 18, 3) := by decide +kernel
theorem dX9_areNumbers_22 : decode cX9_areNumbers 22 = .ok (.iload_n 2, 1) := by decide +kernel
theorem dX9_areNumbers_23 : decode cX9_areNumbers 23 = .ok (.ifCond .lt 14, 3) := by decide +kernel
theorem dX9_areNumbers_26 : decode cX9_areNumbers 26 = .ok (.iload_n 2, 1) := by decide +kernel
theorem dX9_areNumbers_27 : decode cX9_areNumbers 27 = .ok (.sipush 255, 3) := by decide +kernel
theorem dX9_areNumbers_30 : decode cX9_areNumbers 30 = .ok (.if_icmp .gt 7, 3) := by decide +kernel
theorem dX9_areNumbers_33 : decode cX9_areNumbers 33 = .ok (.iconst 1, 1) := by decide +kernel
theorem dX9_areNumbers_34 : decode cX9_areNumbers 34 = .ok (.goto 4, 3) := by decide +kernel
theorem dX9_areNumbers_37 : decode cX9_areNumbers 37 = .ok (.iconst 0, 1) := by decide +kernel
theorem dX9_areNumbers_38 : decode cX9_areNumbers 38 = .ok (.ireturn, 1) := by decide +kernel
set_option maxRecDepth 20000 in
theorem ggX9_routes_X9_areNumbers : GoodIn wsX9_routes wsX9_areNumbers := goodIn_r _ [5] (by decide +kernel) (by decide +kernel)
set_option maxRecDepth 20000 in
theorem gX9_routes_X9_areNumbers : GoodIn wsX9_routes (va_wsS RX9 348 yX9_areNumbers wsX9_areNumbers) := goodIn_app (goodIn_of _ (by decide +kernel)) ggX9_routes_X9_areNumbers
set_option maxRecDepth 20000 in
theorem ggX9_routes_X9_countAll : GoodIn wsX9_routes wsX9_countAll := goodIn_r _ [9, 10, 11, 12, 13, 14, 15, 16, 17, 18, 4, 19, 20, 21, 22, 23, 24, 25, 26, 27, 28, 29, 30, 31, 32, 33, 34, 35, 36, 37, 38, 39, 40, 41, 42, 43, 44, 45, 46, 47, 48, 49, 50, 51, 52, 53, 54, 55, 56, 57, 58, 59, 60, 61, 62, 63, 64, 65, 66, 67, 68, 69, 70, 71, 72, 73, 74, 75, 76, 77, 78, 79, 80, 81, 82, 83, 84, 85, 86, 87, 88, 89, 90, 91, 92, 93, 94, 95, 96] (by decide +kernel) (by decide +kernel)
set_option maxRecDepth 20000 in
theorem gX9_routes_X9_countAll : GoodIn wsX9_routes (wsV RX9 351 RX9 yX9_countAll wsX9_countAll) := goodIn_app (goodIn_of _ (by decide +kernel)) ggX9_routes_X9_countAll
theorem dX9_routes_0 : decode cX9_routes 0 = .ok (.aload_n 0, 1) := by decide +kernel
theorem dX9_routes_1 : decode cX9_routes 1 = .ok (.iconst 0, 1) := by decide +kernel
theorem dX9_routes_2 : decode cX9_routes 2 = .ok (.putfield 1, 3) := by decide +kernel
theorem dX9_routes_5 : decode cX9_routes 5 = .ok (.iload_n 1, 1) := by decide +kernel
theorem dX9_routes_6 : decode cX9_routes 6 = .ok (.iload_n 2, 1) := by decide +kernel
theorem dX9_routes_7 : decode cX9_routes 7 = .ok (.iload_n 3, 1) := by decide +kernel
theorem dX9_routes_8 : decode cX9_routes 8 = .ok (.invokestatic 348, 3) := by decide +kernel
theorem dX9_routes_11 : decode cX9_routes 11 = .ok (.ifCond .eq 14, 3) := by decide +kernel
theorem dX9_routes_14 : decode cX9_routes 14 = .ok (.aload_n 0, 1) := by decide +kernel
theorem dX9_routes_15 : decode cX9_routes 15 = .ok (.iload_n 1, 1) := by decide +kernel
theorem dX9_routes_16 : decode cX9_routes 16 = .ok (.iload_n 2, 1) := by decide +kernel
theorem dX9_routes_17 : decode cX9_routes 17 = .ok (.iload_n 3, 1) := by decide +kernel
theorem dX9_routes_18 : decode cX9_routes 18 = .ok (.iconst (-1), 1) := by decide +kernel
theorem dX9_routes_19 : decode cX9_routes 19 = .ok (.invokevirtual 351, 3) := by decide +kernel
theorem dX9_routes_22 : decode cX9_routes 22 = .ok (.goto 4, 3) := by decide +kernel
theorem dX9_routes_25 : decode cX9_routes 25 = .ok (.iconst (-1), 1) := by decide +kernel
theorem dX9_routes_26 : decode cX9_routes 26 = .ok (.ireturn, 1) := by decide +kernel
set_option maxRecDepth 20000 in
theorem ggX9_route_X9_areNumbers : GoodIn wsX9_route wsX9_areNumbers := goodIn_r _ [6] (by decide +kernel) (by decide +kernel)
set_option maxRecDepth 20000 in
theorem gX9_route_X9_areNumbers : GoodIn wsX9_route (va_wsS RX9 348 yX9_areNumbers wsX9_areNumbers) := goodIn_app (goodIn_of _ (by decide +kernel)) ggX9_route_X9_areNumbers
set_option maxRecDepth 20000 in
theorem ggX9_route_X9_countAll : GoodIn wsX9_route wsX9_countAll := goodIn_r _ [10, 11, 12, 13, 14, 15, 16, 17, 18, 19, 5, 20, 21, 22, 23, 24, 25, 26, 27, 28, 29, 30, 31, 32, 33, 2, 34, 35, 36, 37, 38, 39, 40, 41, 42, 43, 44, 45, 46, 47, 48, 49, 50, 51, 52, 53, 54, 55, 56, 57, 58, 59, 60, 61, 62, 63, 64, 65, 66, 67, 68, 69, 70, 71, 72, 73, 74, 75, 76, 77, 78, 79, 80, 81, 82, 83, 84, 85, 86, 87, 88, 89, 90, 91, 92, 93, 94, 95, 96] (by decide +kernel) (by decide +kernel)
set_option maxRecDepth 20000 in
theorem gX9_route_X9_countAll : GoodIn wsX9_route (wsV RX9 351 RX9 yX9_countAll wsX9_countAll) := goodIn_app (goodIn_of _ (by decide +kernel)) ggX9_route_X9_countAll
theorem dX9_route_0 : decode cX9_route 0 = .ok (.aload_n 0, 1) := by decide +kernel
theorem dX9_route_1 : decode cX9_route 1 = .ok (.iconst 0, 1) := by decide +kernel
theorem dX9_route_2 : decode cX9_route 2 = .ok (.putfield 1, 3) := by decide +kernel
theorem dX9_route_5 : decode cX9_route 5 = .ok (.iload_n 1, 1) := by decide +kernel
theorem dX9_route_6 : decode cX9_route 6 = .ok (.iload_n 2, 1) := by decide +kernel
theorem dX9_route_7 : decode cX9_route 7 = .ok (.iload_n 3, 1) := by decide +kernel
theorem dX9_route_8 : decode cX9_route 8 = .ok (.invokestatic 348, 3) := by decide +kernel
theorem dX9_route_11 : decode cX9_route 11 = .ok (.ifCond .eq 8, 3) := by decide +kernel
theorem dX9_route_14 : decode cX9_route 14 = .ok (.iload 4, 2) := by decide +kernel
theorem dX9_route_16 : decode cX9_route 16 = .ok (.ifCond .ge 5, 3) := by decide +kernel
theorem dX9_route_19 : decode cX9_route 19 = .ok (.iconst (-1), 1) := by decide +kernel
theorem dX9_route_20 : decode cX9_route 20 = .ok (.ireturn, 1) := by decide +kernel
theorem dX9_route_21 : decode cX9_route 21 = .ok (.aload_n 0, 1) := by decide +kernel
theorem dX9_route_22 : decode cX9_route 22 = .ok (.iload_n 1, 1) := by decide +kernel
theorem dX9_route_23 : decode cX9_route 23 = .ok (.iload_n 2, 1) := by decide +kernel
theorem dX9_route_24 : decode cX9_route 24 = .ok (.iload_n 3, 1) := by decide +kernel
theorem dX9_route_25 : decode cX9_route 25 = .ok (.iconst (-1), 1) := by decide +kernel
theorem dX9_route_26 : decode cX9_route 26 = .ok (.invokevirtual 351, 3) := by decide +kernel
theorem dX9_route_29 : decode cX9_route 29 = .ok (.istore 5, 2) := by decide +kernel
theorem dX9_route_31 : decode cX9_route 31 = .ok (.iload 5, 2) := by decide +kernel
theorem dX9_route_33 : decode cX9_route 33 = .ok (.ifCond .ne 5, 3) := by decide +kernel
theorem dX9_route_36 : decode cX9_route 36 = .ok (.iconst (-1), 1) := by decide +kernel
theorem dX9_route_37 : decode cX9_route 37 = .ok (.ireturn, 1) := by decide +kernel
theorem dX9_route_38 : decode cX9_route 38 = .ok (.aload_n 0, 1) := by decide +kernel
theorem dX9_route_39 : decode cX9_route 39 = .ok (.iload_n 1, 1) := by decide +kernel
theorem dX9_route_40 : decode cX9_route 40 = .ok (.iload_n 2, 1) := by decide +kernel
theorem dX9_route_41 : decode cX9_route 41 = .ok (.iload_n 3, 1) := by decide +kernel
theorem dX9_route_42 : decode cX9_route 42 = .ok (.iload 4, 2) := by decide +kernel
theorem dX9_route_44 : decode cX9_route 44 = .ok (.iload 5, 2) := by decide +kernel
theorem dX9_route_46 : decode cX9_route 46 = .ok (.irem, 1) := by decide +kernel
theorem dX9_route_47 : decode cX9_route 47 = .ok (.invokevirtual 351, 3) := by decide +kernel
theorem dX9_route_50 : decode cX9_route 50 = .ok (.istore 6, 2) := by decide +kernel
theorem dX9_route_52 : decode cX9_route 52 = .ok (.aload_n 0, 1) := by decide +kernel
theorem dX9_route_53 : decode cX9_route 53 = .ok (.getfield 345, 3) := by decide +kernel
theorem dX9_route_56 : decode cX9_route 56 = .ok (.ireturn, 1) := by decide +kernel
theorem dX9_part__0 : decode cX9_part_ 0 = .ok (.aload_n 0, 1) := by decide +kernel
theorem dX9_part__1 : decode cX9_part_ 1 = .ok (.iconst 0, 1) := by decide +kernel
theorem dX9_part__2 : decode cX9_part_ 2 = .ok (.putfield 1, 3) := by decide +kernel
theorem dX9_part__5 : decode cX9_part_ 5 = .ok (.iload_n 1, 1) := by decide +kernel
theorem dX9_part__6 : decode cX9_part_ 6 = .ok (.ifCond .lt 11, 3) := by decide +kernel
theorem dX9_part__9 : decode cX9_part_ 9 = .ok (.iload_n 1, 1) := by decide +kernel
theorem dX9_part__10 : decode cX9_part_ 10 = .ok (.aload_n 0, 1) := by decide +kernel
theorem dX9_part__11 : decode cX9_part_ 11 = .ok (.getfield 342, 3) := by decide +kernel
theorem dX9_part__14 : decode cX9_part_ 14 = .ok (.if_icmp .lt 7, 3) := by decide +kernel
theorem dX9_part__17 : decode cX9_part_ 17 = .ok (.iconst (-1), 1) := by decide +kernel
theorem dX9_part__18 : decode cX9_part_ 18 = .ok (.goto 9, 3) := by decide +kernel
theorem dX9_part__21 : decode cX9_part_ 21 = .ok (.aload_n 0, 1) := by decide +kernel
theorem dX9_part__22 : decode cX9_part_ 22 = .ok (.getfield 158, 3) := by decide +kernel
theorem dX9_part__25 : decode cX9_part_ 25 = .ok (.iload_n 1, 1) := by decide +kernel
theorem dX9_part__26 : decode cX9_part_ 26 = .ok (.iaload, 1) := by decide +kernel
theorem dX9_part__27 : decode cX9_part_ 27 = .ok (.ireturn, 1) := by decide +kernel
theorem dX9_differs_0 : decode cX9_differs 0 = .ok (.aload_n 0, 1) := by decide +kernel
theorem dX9_differs_1 : decode cX9_differs 1 = .ok (.iconst 0, 1) := by decide +kernel
theorem dX9_differs_2 : decode cX9_differs 2 = .ok (.putfield 1, 3) := by decide +kernel
theorem dX9_differs_5 : decode cX9_differs 5 = .ok (.iload_n 1, 1) := by decide +kernel
theorem dX9_differs_6 : decode cX9_differs 6 = .ok (.ifCond .lt 21, 3) := by decide +kernel
theorem dX9_differs_9 : decode cX9_differs 9 = .ok (.iload_n 1, 1) := by decide +kernel
theorem dX9_differs_10 : decode cX9_differs 10 = .ok (.aload_n 0, 1) := by decide +kernel
theorem dX9_differs_11 : decode cX9_differs 11 = .ok (.getfield 249, 3) := by decide +kernel
theorem dX9_differs_14 : decode cX9_differs 14 = .ok (.if_icmp .ge 13, 3) := by decide +kernel
theorem dX9_differs_17 : decode cX9_differs 17 = .ok (.iload_n 2, 1) := by decide +kernel
theorem dX9_differs_18 : decode cX9_differs 18 = .ok (.ifCond .lt 9, 3) := by decide +kernel
theorem dX9_differs_21 : decode cX9_differs 21 = .ok (.iload_n 2, 1) := by decide +kernel
theorem dX9_differs_22 : decode cX9_differs 22 = .ok (.bipush 100, 2) := by decide +kernel
theorem dX9_differs_24 : decode cX9_differs 24 = .ok (.if_icmp .le 6, 3) := by decide +kernel
theorem dX9_differs_27 : decode cX9_differs 27 = .ok (.bipush (-2), 2) := by decide +kernel
theorem dX9_differs_29 : decode cX9_differs 29 = .ok (.ireturn, 1) := by decide +kernel
theorem dX9_differs_30 : decode cX9_differs 30 = .ok (.lconst 0, 1) := by decide +kernel
theorem dX9_differs_31 : decode cX9_differs 31 = .ok (.lstore_n 3, 1) := by decide +kernel
theorem dX9_differs_32 : decode cX9_differs 32 = .ok (.lconst 0, 1) := by decide +kernel
theorem dX9_differs_33 : decode cX9_differs 33 = .ok (.lstore 5, 2) := by decide +kernel
theorem dX9_differs_35 : decode cX9_differs 35 = .ok (.iconst 0, 1) := by decide +kernel
theorem dX9_differs_36 : decode cX9_differs 36 = .ok (.istore 7, 2) := by decide +kernel
theorem dX9_differs_38 : decode cX9_differs 38 = .ok (.iload 7, 2) := by decide +kernel
theorem dX9_differs_40 : decode cX9_differs 40 = .ok (.aload_n 0, 1) := by decide +kernel
theorem dX9_differs_41 : decode cX9_differs 41 = .ok (.getfield 249, 3) := by decide +kernel
theorem dX9_differs_44 : decode cX9_differs 44 = .ok (.if_icmp .ge 53, 3) := by decide +kernel
theorem dX9_differs_47 : decode cX9_differs 47 = .ok (.lload_n 3, 1) := by decide +kernel
theorem dX9_differs_48 : decode cX9_differs 48 = .ok (.iload 7, 2) := by decide +kernel
theorem dX9_differs_50 : decode cX9_differs 50 = .ok (.iload_n 1, 1) := by decide +kernel
theorem dX9_differs_51 : decode cX9_differs 51 = .ok (.if_icmp .ne 7, 3) := by decide +kernel
theorem dX9_differs_54 : decode cX9_differs 54 = .ok (.lconst 0, 1) := by decide +kernel
theorem dX9_differs_55 : decode cX9_differs 55 = .ok (.goto 11, 3) := by decide +kernel
theorem dX9_differs_58 : decode cX9_differs 58 = .ok (.aload_n 0, 1) := by decide +kernel
theorem dX9_differs_59 : decode cX9_differs 59 = .ok (.getfield 92, 3) := by decide +kernel
theorem dX9_differs_62 : decode cX9_differs 62 = .ok (.iload 7, 2) := by decide +kernel
theorem dX9_differs_64 : decode cX9_differs 64 = .ok (.iaload, 1) := by decide +kernel
theorem dX9_differs_65 : decode cX9_differs 65 = .ok (.i2l, 1) := by decide +kernel
theorem dX9_differs_66 : decode cX9_differs 66 = .ok (.ladd, 1) := by decide +kernel
theorem dX9_differs_67 : decode cX9_differs 67 = .ok (.lstore_n 3, 1) := by decide +kernel
theorem dX9_differs_68 : decode cX9_differs 68 = .ok (.lload 5, 2) := by decide +kernel
theorem dX9_differs_70 : decode cX9_differs 70 = .ok (.iload 7, 2) := by decide +kernel
theorem dX9_differs_72 : decode cX9_differs 72 = .ok (.iload_n 1, 1) := by decide +kernel
theorem dX9_differs_73 : decode cX9_differs 73 = .ok (.if_icmp .ne 7, 3) := by decide +kernel
theorem dX9_differs_76 : decode cX9_differs 76 = .ok (.lconst 0, 1) := by decide +kernel
theorem dX9_differs_77 : decode cX9_differs 77 = .ok (.goto 11, 3) := by decide +kernel
theorem dX9_differs_80 : decode cX9_differs 80 = .ok (.aload_n 0, 1) := by decide +kernel
theorem dX9_differs_81 : decode cX9_differs 81 = .ok (.getfield 95, 3) := by decide +kernel
theorem dX9_differs_84 : decode cX9_differs 84 = .ok (.iload 7, 2) := by decide +kernel
theorem dX9_differs_86 : decode cX9_differs 86 = .ok (.iaload, 1) := by decide +kernel
theorem dX9_differs_87 : decode cX9_differs 87 = .ok (.i2l, 1) := by decide +kernel
theorem dX9_differs_88 : decode cX9_differs 88 = .ok (.ladd, 1) := by decide +kernel
theorem dX9_differs_89 : decode cX9_differs 89 = .ok (.lstore 5, 2) := by decide +kernel
theorem dX9_differs_91 : decode cX9_differs 91 = .ok (.iinc 7 1, 3) := by decide +kernel
theorem dX9_differs_94 : decode cX9_differs 94 = .ok (.goto (-56), 3) := by decide +kernel
theorem dX9_differs_97 : decode cX9_differs 97 = .ok (.aload_n 0, 1) := by decide +kernel
theorem dX9_differs_98 : decode cX9_differs 98 = .ok (.getfield 95, 3) := by decide +kernel
theorem dX9_differs_101 : decode cX9_differs 101 = .ok (.iload_n 1, 1) := by decide +kernel
theorem dX9_differs_102 : decode cX9_differs 102 = .ok (.iaload, 1) := by decide +kernel
theorem dX9_differs_103 : decode cX9_differs 103 = .ok (.i2l, 1) := by decide +kernel
theorem dX9_differs_104 : decode cX9_differs 104 = .ok (.lload_n 3, 1) := by decide +kernel
theorem dX9_differs_105 : decode cX9_differs 105 = .ok (.lmul, 1) := by decide +kernel
theorem dX9_differs_106 : decode cX9_differs 106 = .ok (.lload 5, 2) := by decide +kernel
theorem dX9_differs_108 : decode cX9_differs 108 = .ok (.aload_n 0, 1) := by decide +kernel
theorem dX9_differs_109 : decode cX9_differs 109 = .ok (.getfield 92, 3) := by decide +kernel
theorem dX9_differs_112 : decode cX9_differs 112 = .ok (.iload_n 1, 1) := by decide +kernel
theorem dX9_differs_113 : decode cX9_differs 113 = .ok (.iaload, 1) := by decide +kernel
theorem dX9_differs_114 : decode cX9_differs 114 = .ok (.i2l, 1) := by decide +kernel
theorem dX9_differs_115 : decode cX9_differs 115 = .ok (.lmul, 1) := by decide +kernel
theorem dX9_differs_116 : decode cX9_differs 116 = .ok (.lsub, 1) := by decide +kernel
theorem dX9_differs_117 : decode cX9_differs 117 = .ok (.ldc2_w 355, 3) := by decide +kernel
theorem dX9_differs_120 : decode cX9_differs 120 = .ok (.lmul, 1) := by decide +kernel
theorem dX9_differs_121 : decode cX9_differs 121 = .ok (.lstore 7, 2) := by decide +kernel
theorem dX9_differs_123 : decode cX9_differs 123 = .ok (.iload_n 2, 1) := by decide +kernel
theorem dX9_differs_124 : decode cX9_differs 124 = .ok (.aload_n 0, 1) := by decide +kernel
theorem dX9_differs_125 : decode cX9_differs 125 = .ok (.getfield 92, 3) := by decide +kernel
theorem dX9_differs_128 : decode cX9_differs 128 = .ok (.iload_n 1, 1) := by decide +kernel
theorem dX9_differs_129 : decode cX9_differs 129 = .ok (.iaload, 1) := by decide +kernel
theorem dX9_differs_130 : decode cX9_differs 130 = .ok (.imul, 1) := by decide +kernel
theorem dX9_differs_131 : decode cX9_differs 131 = .ok (.i2l, 1) := by decide +kernel
theorem dX9_differs_132 : decode cX9_differs 132 = .ok (.lload_n 3, 1) := by decide +kernel
theorem dX9_differs_133 : decode cX9_differs 133 = .ok (.lmul, 1) := by decide +kernel
theorem dX9_differs_134 : decode cX9_differs 134 = .ok (.lstore 9, 2) := by decide +kernel
theorem dX9_differs_136 : decode cX9_differs 136 = .ok (.lload_n 3, 1) := by decide +kernel
theorem dX9_differs_137 : decode cX9_differs 137 = .ok (.lconst 0, 1) := by decide +kernel
theorem dX9_differs_138 : decode cX9_differs 138 = .ok (.lcmp, 1) := by decide +kernel
theorem dX9_differs_139 : decode cX9_differs 139 = .ok (.ifCond .eq 12, 3) := by decide +kernel
theorem dX9_differs_142 : decode cX9_differs 142 = .ok (.aload_n 0, 1) := by decide +kernel
theorem dX9_differs_143 : decode cX9_differs 143 = .ok (.getfield 92, 3) := by decide +kernel
theorem dX9_differs_146 : decode cX9_differs 146 = .ok (.iload_n 1, 1) := by decide +kernel
theorem dX9_differs_147 : decode cX9_differs 147 = .ok (.iaload, 1) := by decide +kernel
theorem dX9_differs_148 : decode cX9_differs 148 = .ok (.ifCond .ne 7, 3) := by decide +kernel
theorem dX9_differs_151 : decode cX9_differs 151 = .ok (.iconst 0, 1) := by decide +kernel
theorem dX9_differs_152 : decode cX9_differs 152 = .ok (.goto 29, 3) := by decide +kernel
theorem dX9_differs_155 : decode cX9_differs 155 = .ok (.lload 7, 2) := by decide +kernel
theorem dX9_differs_157 : decode cX9_differs 157 = .ok (.lload 9, 2) := by decide +kernel
theorem dX9_differs_159 : decode cX9_differs 159 = .ok (.lcmp, 1) := by decide +kernel
theorem dX9_differs_160 : decode cX9_differs 160 = .ok (.ifCond .le 7, 3) := by decide +kernel
theorem dX9_differs_163 : decode cX9_differs 163 = .ok (.iconst 1, 1) := by decide +kernel
theorem dX9_differs_164 : decode cX9_differs 164 = .ok (.goto 17, 3) := by decide +kernel
theorem dX9_differs_167 : decode cX9_differs 167 = .ok (.lload 7, 2) := by decide +kernel
theorem dX9_differs_169 : decode cX9_differs 169 = .ok (.lload 9, 2) := by decide +kernel
theorem dX9_differs_171 : decode cX9_differs 171 = .ok (.lneg, 1) := by decide +kernel
theorem dX9_differs_172 : decode cX9_differs 172 = .ok (.lcmp, 1) := by decide +kernel
theorem dX9_differs_173 : decode cX9_differs 173 = .ok (.ifCond .ge 7, 3) := by decide +kernel
theorem dX9_differs_176 : decode cX9_differs 176 = .ok (.iconst (-1), 1) := by decide +kernel
theorem dX9_differs_177 : decode cX9_differs 177 = .ok (.goto 4, 3) := by decide +kernel
theorem dX9_differs_180 : decode cX9_differs 180 = .ok (.iconst 0, 1) := by decide +kernel
theorem dX9_differs_181 : decode cX9_differs 181 = .ok (.ireturn, 1) := by decide +kernel
theorem dX9_learnersThat_0 : decode cX9_learnersThat 0 = .ok (.iconst 0, 1) := by decide +kernel
theorem dX9_learnersThat_1 : decode cX9_learnersThat 1 = .ok (.istore_n 2, 1) := by decide +kernel
theorem dX9_learnersThat_2 : decode cX9_learnersThat 2 = .ok (.iconst 0, 1) := by decide +kernel
theorem dX9_learnersThat_3 : decode cX9_learnersThat 3 = .ok (.istore_n 3, 1) := by decide +kernel
theorem dX9_learnersThat_4 : decode cX9_learnersThat 4 = .ok (.iload_n 3, 1) := by decide +kernel
theorem dX9_learnersThat_5 : decode cX9_learnersThat 5 = .ok (.aload_n 0, 1) := by decide +kernel
theorem dX9_learnersThat_6 : decode cX9_learnersThat 6 = .ok (.getfield 256, 3) := by decide +kernel
theorem dX9_learnersThat_9 : decode cX9_learnersThat 9 = .ok (.if_icmp .ge 27, 3) := by decide +kernel
theorem dX9_learnersThat_12 : decode cX9_learnersThat 12 = .ok (.iload_n 2, 1) := by decide +kernel
theorem dX9_learnersThat_13 : decode cX9_learnersThat 13 = .ok (.aload_n 0, 1) := by decide +kernel
theorem dX9_learnersThat_14 : decode cX9_learnersThat 14 = .ok (.getfield 119, 3) := by decide +kernel
theorem dX9_learnersThat_17 : decode cX9_learnersThat 17 = .ok (.iload_n 3, 1) := by decide +kernel
theorem dX9_learnersThat_18 : decode cX9_learnersThat 18 = .ok (.iaload, 1) := by decide +kernel
theorem dX9_learnersThat_19 : decode cX9_learnersThat 19 = .ok (.iload_n 1, 1) := by decide +kernel
theorem dX9_learnersThat_20 : decode cX9_learnersThat 20 = .ok (.if_icmp .ne 7, 3) := by decide +kernel
theorem dX9_learnersThat_23 : decode cX9_learnersThat 23 = .ok (.iconst 1, 1) := by decide +kernel
theorem dX9_learnersThat_24 : decode cX9_learnersThat 24 = .ok (.goto 4, 3) := by decide +kernel
theorem dX9_learnersThat_27 : decode cX9_learnersThat 27 = .ok (.iconst 0, 1) := by decide +kernel
theorem dX9_learnersThat_28 : decode cX9_learnersThat 28 = .ok (.iadd, 1) := by decide +kernel
theorem dX9_learnersThat_29 : decode cX9_learnersThat 29 = .ok (.istore_n 2, 1) := by decide +kernel
theorem dX9_learnersThat_30 : decode cX9_learnersThat 30 = .ok (.iinc 3 1, 3) := by decide +kernel
theorem dX9_learnersThat_33 : decode cX9_learnersThat 33 = .ok (.goto (-29), 3) := by decide +kernel
theorem dX9_learnersThat_36 : decode cX9_learnersThat 36 = .ok (.iload_n 2, 1) := by decide +kernel
theorem dX9_learnersThat_37 : decode cX9_learnersThat 37 = .ok (.ireturn, 1) := by decide +kernel
set_option maxRecDepth 20000 in
theorem ggX9_count_X9_learnersThat : GoodIn wsX9_count wsX9_learnersThat := goodIn_r _ [14, 3, 15, 16, 17, 18, 19, 20, 21, 22, 23, 24, 25, 26, 27, 28, 29, 30, 31, 32, 33, 34, 35, 36, 37, 38, 39, 40, 41, 42, 43, 44, 45, 46, 47, 48, 49, 50, 51, 52, 53, 54, 55, 56, 57, 58, 59, 60, 61, 62, 63, 64, 65, 66, 67, 68, 69, 70, 71, 72, 73, 74, 75, 76, 77] (by decide +kernel) (by decide +kernel)
set_option maxRecDepth 20000 in
theorem gX9_count_X9_learnersThat : GoodIn wsX9_count (wsV RX9 357 RX9 yX9_learnersThat wsX9_learnersThat) := goodIn_app (goodIn_of _ (by decide +kernel)) ggX9_count_X9_learnersThat
theorem dX9_count_0 : decode cX9_count 0 = .ok (.aload_n 0, 1) := by decide +kernel
theorem dX9_count_1 : decode cX9_count 1 = .ok (.iconst 0, 1) := by decide +kernel
theorem dX9_count_2 : decode cX9_count 2 = .ok (.putfield 1, 3) := by decide +kernel
theorem dX9_count_5 : decode cX9_count 5 = .ok (.iload_n 1, 1) := by decide +kernel
theorem dX9_count_6 : decode cX9_count 6 = .ok (.tableswitch 122 0 10 #[58, 63, 68, 73, 79, 85, 91, 97, 107, 112, 117], 58) := by decide +kernel
theorem dX9_count_64 : decode cX9_count 64 = .ok (.aload_n 0, 1) := by decide +kernel
theorem dX9_count_65 : decode cX9_count 65 = .ok (.getfield 249, 3) := by decide +kernel
theorem dX9_count_68 : decode cX9_count 68 = .ok (.ireturn, 1) := by decide +kernel
theorem dX9_count_69 : decode cX9_count 69 = .ok (.aload_n 0, 1) := by decide +kernel
theorem dX9_count_70 : decode cX9_count 70 = .ok (.getfield 256, 3) := by decide +kernel
theorem dX9_count_73 : decode cX9_count 73 = .ok (.ireturn, 1) := by decide +kernel
theorem dX9_count_74 : decode cX9_count 74 = .ok (.aload_n 0, 1) := by decide +kernel
theorem dX9_count_75 : decode cX9_count 75 = .ok (.getfield 259, 3) := by decide +kernel
theorem dX9_count_78 : decode cX9_count 78 = .ok (.ireturn, 1) := by decide +kernel
theorem dX9_count_79 : decode cX9_count 79 = .ok (.aload_n 0, 1) := by decide +kernel
theorem dX9_count_80 : decode cX9_count 80 = .ok (.iconst 0, 1) := by decide +kernel
theorem dX9_count_81 : decode cX9_count 81 = .ok (.invokevirtual 357, 3) := by decide +kernel
theorem dX9_count_84 : decode cX9_count 84 = .ok (.ireturn, 1) := by decide +kernel
theorem dX9_count_85 : decode cX9_count 85 = .ok (.aload_n 0, 1) := by decide +kernel
theorem dX9_count_86 : decode cX9_count 86 = .ok (.iconst 1, 1) := by decide +kernel
theorem dX9_count_87 : decode cX9_count 87 = .ok (.invokevirtual 357, 3) := by decide +kernel
theorem dX9_count_90 : decode cX9_count 90 = .ok (.ireturn, 1) := by decide +kernel
theorem dX9_count_91 : decode cX9_count 91 = .ok (.aload_n 0, 1) := by decide +kernel
theorem dX9_count_92 : decode cX9_count 92 = .ok (.iconst 2, 1) := by decide +kernel
theorem dX9_count_93 : decode cX9_count 93 = .ok (.invokevirtual 357, 3) := by decide +kernel
theorem dX9_count_96 : decode cX9_count 96 = .ok (.ireturn, 1) := by decide +kernel
theorem dX9_count_97 : decode cX9_count 97 = .ok (.aload_n 0, 1) := by decide +kernel
theorem dX9_count_98 : decode cX9_count 98 = .ok (.iconst 3, 1) := by decide +kernel
theorem dX9_count_99 : decode cX9_count 99 = .ok (.invokevirtual 357, 3) := by decide +kernel
theorem dX9_count_102 : decode cX9_count 102 = .ok (.ireturn, 1) := by decide +kernel
theorem dX9_count_103 : decode cX9_count 103 = .ok (.aload_n 0, 1) := by decide +kernel
theorem dX9_count_104 : decode cX9_count 104 = .ok (.getfield 55, 3) := by decide +kernel
theorem dX9_count_107 : decode cX9_count 107 = .ok (.aload_n 0, 1) := by decide +kernel
theorem dX9_count_108 : decode cX9_count 108 = .ok (.getfield 211, 3) := by decide +kernel
theorem dX9_count_111 : decode cX9_count 111 = .ok (.iaload, 1) := by decide +kernel
theorem dX9_count_112 : decode cX9_count 112 = .ok (.ireturn, 1) := by decide +kernel
theorem dX9_count_113 : decode cX9_count 113 = .ok (.aload_n 0, 1) := by decide +kernel
theorem dX9_count_114 : decode cX9_count 114 = .ok (.getfield 11, 3) := by decide +kernel
theorem dX9_count_117 : decode cX9_count 117 = .ok (.ireturn, 1) := by decide +kernel
theorem dX9_count_118 : decode cX9_count 118 = .ok (.aload_n 0, 1) := by decide +kernel
theorem dX9_count_119 : decode cX9_count 119 = .ok (.getfield 311, 3) := by decide +kernel
theorem dX9_count_122 : decode cX9_count 122 = .ok (.ireturn, 1) := by decide +kernel
theorem dX9_count_123 : decode cX9_count 123 = .ok (.aload_n 0, 1) := by decide +kernel
theorem dX9_count_124 : decode cX9_count 124 = .ok (.getfield 305, 3) := by decide +kernel
theorem dX9_count_127 : decode cX9_count 127 = .ok (.ireturn, 1) := by decide +kernel
theorem dX9_count_128 : decode cX9_count 128 = .ok (.iconst (-1), 1) := by decide +kernel
theorem dX9_count_129 : decode cX9_count 129 = .ok (.ireturn, 1) := by decide +kernel
theorem dX9_load_0 : decode cX9_load 0 = .ok (.aload_n 0, 1) := by decide +kernel
theorem dX9_load_1 : decode cX9_load 1 = .ok (.iconst 0, 1) := by decide +kernel
theorem dX9_load_2 : decode cX9_load 2 = .ok (.putfield 1, 3) := by decide +kernel
theorem dX9_load_5 : decode cX9_load 5 = .ok (.iload_n 1, 1) := by decide +kernel
theorem dX9_load_6 : decode cX9_load 6 = .ok (.ifCond .lt 11, 3) := by decide +kernel
theorem dX9_load_9 : decode cX9_load 9 = .ok (.iload_n 1, 1) := by decide +kernel
theorem dX9_load_10 : decode cX9_load 10 = .ok (.aload_n 0, 1) := by decide +kernel
theorem dX9_load_11 : decode cX9_load 11 = .ok (.getfield 249, 3) := by decide +kernel
theorem dX9_load_14 : decode cX9_load 14 = .ok (.if_icmp .lt 5, 3) := by decide +kernel
theorem dX9_load_17 : decode cX9_load 17 = .ok (.iconst (-1), 1) := by decide +kernel
theorem dX9_load_18 : decode cX9_load 18 = .ok (.ireturn, 1) := by decide +kernel
theorem dX9_load_19 : decode cX9_load 19 = .ok (.iconst 0, 1) := by decide +kernel
theorem dX9_load_20 : decode cX9_load 20 = .ok (.istore_n 3, 1) := by decide +kernel
theorem dX9_load_21 : decode cX9_load 21 = .ok (.iconst 0, 1) := by decide +kernel
theorem dX9_load_22 : decode cX9_load 22 = .ok (.istore 4, 2) := by decide +kernel
theorem dX9_load_24 : decode cX9_load 24 = .ok (.iload 4, 2) := by decide +kernel
theorem dX9_load_26 : decode cX9_load 26 = .ok (.aload_n 0, 1) := by decide +kernel
theorem dX9_load_27 : decode cX9_load 27 = .ok (.getfield 256, 3) := by decide +kernel
theorem dX9_load_30 : decode cX9_load 30 = .ok (.if_icmp .ge 42, 3) := by decide +kernel
theorem dX9_load_33 : decode cX9_load 33 = .ok (.iload_n 3, 1) := by decide +kernel
theorem dX9_load_34 : decode cX9_load 34 = .ok (.aload_n 0, 1) := by decide +kernel
theorem dX9_load_35 : decode cX9_load 35 = .ok (.getfield 119, 3) := by decide +kernel
theorem dX9_load_38 : decode cX9_load 38 = .ok (.iload 4, 2) := by decide +kernel
theorem dX9_load_40 : decode cX9_load 40 = .ok (.iaload, 1) := by decide +kernel
theorem dX9_load_41 : decode cX9_load 41 = .ok (.iconst 1, 1) := by decide +kernel
theorem dX9_load_42 : decode cX9_load 42 = .ok (.if_icmp .ne 21, 3) := by decide +kernel
theorem dX9_load_45 : decode cX9_load 45 = .ok (.aload_n 0, 1) := by decide +kernel
theorem dX9_load_46 : decode cX9_load 46 = .ok (.getfield 122, 3) := by decide +kernel
theorem dX9_load_49 : decode cX9_load 49 = .ok (.iload 4, 2) := by decide +kernel
theorem dX9_load_51 : decode cX9_load 51 = .ok (.iaload, 1) := by decide +kernel
theorem dX9_load_52 : decode cX9_load 52 = .ok (.bipush 8, 2) := by decide +kernel
theorem dX9_load_54 : decode cX9_load 54 = .ok (.irem, 1) := by decide +kernel
theorem dX9_load_55 : decode cX9_load 55 = .ok (.iload_n 1, 1) := by decide +kernel
theorem dX9_load_56 : decode cX9_load 56 = .ok (.if_icmp .ne 7, 3) := by decide +kernel
theorem dX9_load_59 : decode cX9_load 59 = .ok (.iconst 1, 1) := by decide +kernel
theorem dX9_load_60 : decode cX9_load 60 = .ok (.goto 4, 3) := by decide +kernel
theorem dX9_load_63 : decode cX9_load 63 = .ok (.iconst 0, 1) := by decide +kernel
theorem dX9_load_64 : decode cX9_load 64 = .ok (.iadd, 1) := by decide +kernel
theorem dX9_load_65 : decode cX9_load 65 = .ok (.istore_n 3, 1) := by decide +kernel
theorem dX9_load_66 : decode cX9_load 66 = .ok (.iinc 4 1, 3) := by decide +kernel
theorem dX9_load_69 : decode cX9_load 69 = .ok (.goto (-45), 3) := by decide +kernel
theorem dX9_load_72 : decode cX9_load 72 = .ok (.iload_n 2, 1) := by decide +kernel
theorem dX9_load_73 : decode cX9_load 73 = .ok (.ifCond .ne 12, 3) := by decide +kernel
theorem dX9_load_76 : decode cX9_load 76 = .ok (.aload_n 0, 1) := by decide +kernel
theorem dX9_load_77 : decode cX9_load 77 = .ok (.getfield 92, 3) := by decide +kernel
theorem dX9_load_80 : decode cX9_load 80 = .ok (.iload_n 1, 1) := by decide +kernel
theorem dX9_load_81 : decode cX9_load 81 = .ok (.iaload, 1) := by decide +kernel
theorem dX9_load_82 : decode cX9_load 82 = .ok (.goto 27, 3) := by decide +kernel
theorem dX9_load_85 : decode cX9_load 85 = .ok (.iload_n 2, 1) := by decide +kernel
theorem dX9_load_86 : decode cX9_load 86 = .ok (.iconst 1, 1) := by decide +kernel
theorem dX9_load_87 : decode cX9_load 87 = .ok (.if_icmp .ne 12, 3) := by decide +kernel
theorem dX9_load_90 : decode cX9_load 90 = .ok (.aload_n 0, 1) := by decide +kernel
theorem dX9_load_91 : decode cX9_load 91 = .ok (.getfield 95, 3) := by decide +kernel
theorem dX9_load_94 : decode cX9_load 94 = .ok (.iload_n 1, 1) := by decide +kernel
theorem dX9_load_95 : decode cX9_load 95 = .ok (.iaload, 1) := by decide +kernel
theorem dX9_load_96 : decode cX9_load 96 = .ok (.goto 13, 3) := by decide +kernel
theorem dX9_load_99 : decode cX9_load 99 = .ok (.iload_n 2, 1) := by decide +kernel
theorem dX9_load_100 : decode cX9_load 100 = .ok (.iconst 2, 1) := by decide +kernel
theorem dX9_load_101 : decode cX9_load 101 = .ok (.if_icmp .ne 7, 3) := by decide +kernel
theorem dX9_load_104 : decode cX9_load 104 = .ok (.iload_n 3, 1) := by decide +kernel
theorem dX9_load_105 : decode cX9_load 105 = .ok (.goto 4, 3) := by decide +kernel
theorem dX9_load_108 : decode cX9_load 108 = .ok (.iconst (-1), 1) := by decide +kernel
theorem dX9_load_109 : decode cX9_load 109 = .ok (.ireturn, 1) := by decide +kernel
theorem dJ9_max_7cf53_0 : decode cJ9_max_7cf53 0 = .ok (.iload_n 0, 1) := by decide +kernel
theorem dJ9_max_7cf53_1 : decode cJ9_max_7cf53 1 = .ok (.iload_n 1, 1) := by decide +kernel
theorem dJ9_max_7cf53_2 : decode cJ9_max_7cf53 2 = .ok (.if_icmp .lt 7, 3) := by decide +kernel
theorem dJ9_max_7cf53_5 : decode cJ9_max_7cf53 5 = .ok (.iload_n 0, 1) := by decide +kernel
theorem dJ9_max_7cf53_6 : decode cJ9_max_7cf53 6 = .ok (.goto 4, 3) := by decide +kernel
theorem dJ9_max_7cf53_9 : decode cJ9_max_7cf53 9 = .ok (.iload_n 1, 1) := by decide +kernel
theorem dJ9_max_7cf53_10 : decode cJ9_max_7cf53 10 = .ok (.ireturn, 1) := by decide +kernel
set_option maxRecDepth 20000 in
theorem ggJ0_length_8abf5_J0_coder_7d493 : GoodIn wsJ0_length_8abf5 wsJ0_coder_7d493 := goodIn_r _ [6, 7, 8] (by decide +kernel) (by decide +kernel)
set_option maxRecDepth 20000 in
theorem gJ0_length_8abf5_J0_coder_7d493 : GoodIn wsJ0_length_8abf5 (wsV RJ0 335 RJ0 yJ0_coder_7d493 wsJ0_coder_7d493) := goodIn_app (goodIn_of _ (by decide +kernel)) ggJ0_length_8abf5_J0_coder_7d493
theorem dJ0_length_8abf5_0 : decode cJ0_length_8abf5 0 = .ok (.aload_n 0, 1) := by decide +kernel
theorem dJ0_length_8abf5_1 : decode cJ0_length_8abf5 1 = .ok (.getfield 9, 3) := by decide +kernel
theorem dJ0_length_8abf5_4 : decode cJ0_length_8abf5 4 = .ok (.arraylength, 1) := by decide +kernel
theorem dJ0_length_8abf5_5 : decode cJ0_length_8abf5 5 = .ok (.aload_n 0, 1) := by decide +kernel
theorem dJ0_length_8abf5_6 : decode cJ0_length_8abf5 6 = .ok (.invokevirtual 335, 3) := by decide +kernel
theorem dJ0_length_8abf5_9 : decode cJ0_length_8abf5 9 = .ok (.ishr, 1) := by decide +kernel
theorem dJ0_length_8abf5_10 : decode cJ0_length_8abf5 10 = .ok (.ireturn, 1) := by decide +kernel
set_option maxRecDepth 20000 in
theorem ggJ0_charAt_5068e_J0_isLatin1_aae02 : GoodIn wsJ0_charAt_5068e wsJ0_isLatin1_aae02 := goodIn_r _ [6, 7, 8] (by decide +kernel) (by decide +kernel)
set_option maxRecDepth 20000 in
theorem gJ0_charAt_5068e_J0_isLatin1_aae02 : GoodIn wsJ0_charAt_5068e (wsV RJ0 492 RJ0 yJ0_isLatin1_aae02 wsJ0_isLatin1_aae02) := goodIn_app (goodIn_of _ (by decide +kernel)) ggJ0_charAt_5068e_J0_isLatin1_aae02
set_option maxRecDepth 20000 in
theorem ggJ0_charAt_5068e_J1_charAt_3b067 : GoodIn wsJ0_charAt_5068e wsJ1_charAt_3b067 := goodIn_r _ [12, 13, 14, 5, 15, 16, 17, 18, 19, 20] (by decide +kernel) (by decide +kernel)
set_option maxRecDepth 20000 in
theorem gJ0_charAt_5068e_J1_charAt_3b067 : GoodIn wsJ0_charAt_5068e (va_wsS RJ0 495 yJ1_charAt_3b067 wsJ1_charAt_3b067) := goodIn_app (goodIn_of _ (by decide +kernel)) ggJ0_charAt_5068e_J1_charAt_3b067
set_option maxRecDepth 20000 in
theorem ggJ0_charAt_5068e_J2_charAt_3b067 : GoodIn wsJ0_charAt_5068e wsJ2_charAt_3b067 := goodIn_r _ [24, 25, 26, 23, 27, 28, 29, 30, 31, 14, 5, 15, 16, 17, 18, 19, 20, 32, 33, 34, 35, 36, 37] (by decide +kernel) (by decide +kernel)
set_option maxRecDepth 20000 in
theorem gJ0_charAt_5068e_J2_charAt_3b067 : GoodIn wsJ0_charAt_5068e (va_wsS RJ0 498 yJ2_charAt_3b067 wsJ2_charAt_3b067) := goodIn_app (goodIn_of _ (by decide +kernel)) ggJ0_charAt_5068e_J2_charAt_3b067
theorem dJ0_charAt_5068e_0 : decode cJ0_charAt_5068e 0 = .ok (.aload_n 0, 1) := by decide +kernel
theorem dJ0_charAt_5068e_1 : decode cJ0_charAt_5068e 1 = .ok (.invokevirtual 492, 3) := by decide +kernel
theorem dJ0_charAt_5068e_4 : decode cJ0_charAt_5068e 4 = .ok (.ifCond .eq 12, 3) := by decide +kernel
theorem dJ0_charAt_5068e_7 : decode cJ0_charAt_5068e 7 = .ok (.aload_n 0, 1) := by decide +kernel
theorem dJ0_charAt_5068e_8 : decode cJ0_charAt_5068e 8 = .ok (.getfield 9, 3) := by decide +kernel
theorem dJ0_charAt_5068e_11 : decode cJ0_charAt_5068e 11 = .ok (.iload_n 1, 1) := by decide +kernel
theorem dJ0_charAt_5068e_12 : decode cJ0_charAt_5068e 12 = .ok (.invokestatic 495, 3) := by decide +kernel
theorem dJ0_charAt_5068e_15 : decode cJ0_charAt_5068e 15 = .ok (.ireturn, 1) := by decide +kernel
theorem dJ0_charAt_5068e_16 : decode cJ0_charAt_5068e 16 = .ok (.aload_n 0, 1) := by decide +kernel
theorem dJ0_charAt_5068e_17 : decode cJ0_charAt_5068e 17 = .ok (.getfield 9, 3) := by decide +kernel
theorem dJ0_charAt_5068e_20 : decode cJ0_charAt_5068e 20 = .ok (.iload_n 1, 1) := by decide +kernel
theorem dJ0_charAt_5068e_21 : decode cJ0_charAt_5068e 21 = .ok (.invokestatic 498, 3) := by decide +kernel
theorem dJ0_charAt_5068e_24 : decode cJ0_charAt_5068e 24 = .ok (.ireturn, 1) := by decide +kernel
theorem dJ0_coder_7d493_0 : decode cJ0_coder_7d493 0 = .ok (.getstatic 38, 3) := by decide +kernel
theorem dJ0_coder_7d493_3 : decode cJ0_coder_7d493 3 = .ok (.ifCond .eq 10, 3) := by decide +kernel
theorem dJ0_coder_7d493_6 : decode cJ0_coder_7d493 6 = .ok (.aload_n 0, 1) := by decide +kernel
theorem dJ0_coder_7d493_7 : decode cJ0_coder_7d493 7 = .ok (.getfield 15, 3) := by decide +kernel
theorem dJ0_coder_7d493_10 : decode cJ0_coder_7d493 10 = .ok (.goto 4, 3) := by decide +kernel
theorem dJ0_coder_7d493_13 : decode cJ0_coder_7d493 13 = .ok (.iconst 1, 1) := by decide +kernel
theorem dJ0_coder_7d493_14 : decode cJ0_coder_7d493 14 = .ok (.ireturn, 1) := by decide +kernel
theorem dJ0_isLatin1_aae02_0 : decode cJ0_isLatin1_aae02 0 = .ok (.getstatic 38, 3) := by decide +kernel
theorem dJ0_isLatin1_aae02_3 : decode cJ0_isLatin1_aae02 3 = .ok (.ifCond .eq 14, 3) := by decide +kernel
theorem dJ0_isLatin1_aae02_6 : decode cJ0_isLatin1_aae02 6 = .ok (.aload_n 0, 1) := by decide +kernel
theorem dJ0_isLatin1_aae02_7 : decode cJ0_isLatin1_aae02 7 = .ok (.getfield 15, 3) := by decide +kernel
theorem dJ0_isLatin1_aae02_10 : decode cJ0_isLatin1_aae02 10 = .ok (.ifCond .ne 7, 3) := by decide +kernel
theorem dJ0_isLatin1_aae02_13 : decode cJ0_isLatin1_aae02 13 = .ok (.iconst 1, 1) := by decide +kernel
theorem dJ0_isLatin1_aae02_14 : decode cJ0_isLatin1_aae02 14 = .ok (.goto 4, 3) := by decide +kernel
theorem dJ0_isLatin1_aae02_17 : decode cJ0_isLatin1_aae02 17 = .ok (.iconst 0, 1) := by decide +kernel
theorem dJ0_isLatin1_aae02_18 : decode cJ0_isLatin1_aae02 18 = .ok (.ireturn, 1) := by decide +kernel
set_option maxRecDepth 20000 in
theorem ggJ0_checkIndex_df160_J3_checkIndex_8e157 : GoodIn wsJ0_checkIndex_df160 wsJ3_checkIndex_8e157 := goodIn_r _ [5] (by decide +kernel) (by decide +kernel)
set_option maxRecDepth 20000 in
theorem gJ0_checkIndex_df160_J3_checkIndex_8e157 : GoodIn wsJ0_checkIndex_df160 (va_wsS RJ0 1059 yJ3_checkIndex_8e157 wsJ3_checkIndex_8e157) := goodIn_app (goodIn_of _ (by decide +kernel)) ggJ0_checkIndex_df160_J3_checkIndex_8e157
theorem dJ0_checkIndex_df160_0 : decode cJ0_checkIndex_df160 0 = .ok (.iload_n 0, 1) := by decide +kernel
theorem dJ0_checkIndex_df160_1 : decode cJ0_checkIndex_df160 1 = .ok (.iload_n 1, 1) := by decide +kernel
theorem dJ0_checkIndex_df160_2 : decode cJ0_checkIndex_df160 2 = .ok (.getstatic 1053, 3) := by decide +kernel
theorem dJ0_checkIndex_df160_5 : decode cJ0_checkIndex_df160 5 = .ok (.invokestatic 1059, 3) := by decide +kernel
theorem dJ0_checkIndex_df160_8 : decode cJ0_checkIndex_df160 8 = .ok (.pop, 1) := by decide +kernel
theorem dJ0_checkIndex_df160_9 : decode cJ0_checkIndex_df160 9 = .ok (.return_, 1) := by decide +kernel
set_option maxRecDepth 20000 in
theorem ggJ1_charAt_3b067_J0_checkIndex_df160 : GoodIn wsJ1_charAt_3b067 wsJ0_checkIndex_df160 := goodIn_r _ [4, 5, 6, 7, 8, 9] (by decide +kernel) (by decide +kernel)
set_option maxRecDepth 20000 in
theorem gJ1_charAt_3b067_J0_checkIndex_df160 : GoodIn wsJ1_charAt_3b067 (va_wsS RJ1 9 yJ0_checkIndex_df160 wsJ0_checkIndex_df160) := goodIn_app (goodIn_of _ (by decide +kernel)) ggJ1_charAt_3b067_J0_checkIndex_df160
theorem dJ1_charAt_3b067_0 : decode cJ1_charAt_3b067 0 = .ok (.iload_n 1, 1) := by decide +kernel
theorem dJ1_charAt_3b067_1 : decode cJ1_charAt_3b067 1 = .ok (.aload_n 0, 1) := by decide +kernel
theorem dJ1_charAt_3b067_2 : decode cJ1_charAt_3b067 2 = .ok (.arraylength, 1) := by decide +kernel
theorem dJ1_charAt_3b067_3 : decode cJ1_charAt_3b067 3 = .ok (.invokestatic 9, 3) := by decide +kernel
theorem dJ1_charAt_3b067_6 : decode cJ1_charAt_3b067 6 = .ok (.aload_n 0, 1) := by decide +kernel
theorem dJ1_charAt_3b067_7 : decode cJ1_charAt_3b067 7 = .ok (.iload_n 1, 1) := by decide +kernel
theorem dJ1_charAt_3b067_8 : decode cJ1_charAt_3b067 8 = .ok (.baload, 1) := by decide +kernel
theorem dJ1_charAt_3b067_9 : decode cJ1_charAt_3b067 9 = .ok (.sipush 255, 3) := by decide +kernel
theorem dJ1_charAt_3b067_12 : decode cJ1_charAt_3b067 12 = .ok (.iand, 1) := by decide +kernel
theorem dJ1_charAt_3b067_13 : decode cJ1_charAt_3b067 13 = .ok (.i2c, 1) := by decide +kernel
theorem dJ1_charAt_3b067_14 : decode cJ1_charAt_3b067 14 = .ok (.ireturn, 1) := by decide +kernel
set_option maxRecDepth 20000 in
theorem ggJ2_getChar_3b067_J2_length_9d52b : GoodIn wsJ2_getChar_3b067 wsJ2_length_9d52b := goodIn_r _ [7] (by decide +kernel) (by decide +kernel)
set_option maxRecDepth 20000 in
theorem gJ2_getChar_3b067_J2_length_9d52b : GoodIn wsJ2_getChar_3b067 (va_wsS RJ2 48 yJ2_length_9d52b wsJ2_length_9d52b) := goodIn_app (goodIn_of _ (by decide +kernel)) ggJ2_getChar_3b067_J2_length_9d52b
theorem dJ2_getChar_3b067_0 : decode cJ2_getChar_3b067 0 = .ok (.getstatic 44, 3) := by decide +kernel
theorem dJ2_getChar_3b067_3 : decode cJ2_getChar_3b067 3 = .ok (.ifCond .ne 25, 3) := by decide +kernel
theorem dJ2_getChar_3b067_6 : decode cJ2_getChar_3b067 6 = .ok (.iload_n 1, 1) := by decide +kernel
theorem dJ2_getChar_3b067_7 : decode cJ2_getChar_3b067 7 = .ok (.ifCond .lt 11, 3) := by decide +kernel
theorem dJ2_getChar_3b067_10 : decode cJ2_getChar_3b067 10 = .ok (.iload_n 1, 1) := by decide +kernel
theorem dJ2_getChar_3b067_11 : decode cJ2_getChar_3b067 11 = .ok (.aload_n 0, 1) := by decide +kernel
theorem dJ2_getChar_3b067_12 : decode cJ2_getChar_3b067 12 = .ok (.invokestatic 48, 3) := by decide +kernel
theorem dJ2_getChar_3b067_15 : decode cJ2_getChar_3b067 15 = .ok (.if_icmp .lt 13, 3) := by decide +kernel
theorem dJ2_getChar_3b067_18 : decode cJ2_getChar_3b067 18 = .ok (.new 52, 3) := by decide +kernel
theorem dJ2_getChar_3b067_21 : decode cJ2_getChar_3b067 21 = .ok (.dup, 1) := by decide +kernel
theorem dJ2_getChar_3b067_22 : decode cJ2_getChar_3b067 22 = .ok (.ldc 54, 2) := by decide +kernel
theorem dJ2_getChar_3b067_24 : decode cJ2_getChar_3b067 24 = .ok (.invokespecial 56, 3) := by decide +kernel
theorem dJ2_getChar_3b067_27 : decode cJ2_getChar_3b067 27 = .ok (.athrow, 1) := by decide +kernel
theorem dJ2_getChar_3b067_28 : decode cJ2_getChar_3b067 28 = .ok (.iload_n 1, 1) := by decide +kernel
theorem dJ2_getChar_3b067_29 : decode cJ2_getChar_3b067 29 = .ok (.iconst 1, 1) := by decide +kernel
theorem dJ2_getChar_3b067_30 : decode cJ2_getChar_3b067 30 = .ok (.ishl, 1) := by decide +kernel
theorem dJ2_getChar_3b067_31 : decode cJ2_getChar_3b067 31 = .ok (.istore_n 1, 1) := by decide +kernel
theorem dJ2_getChar_3b067_32 : decode cJ2_getChar_3b067 32 = .ok (.aload_n 0, 1) := by decide +kernel
theorem dJ2_getChar_3b067_33 : decode cJ2_getChar_3b067 33 = .ok (.iload_n 1, 1) := by decide +kernel
theorem dJ2_getChar_3b067_34 : decode cJ2_getChar_3b067 34 = .ok (.iinc 1 1, 3) := by decide +kernel
theorem dJ2_getChar_3b067_37 : decode cJ2_getChar_3b067 37 = .ok (.baload, 1) := by decide +kernel
theorem dJ2_getChar_3b067_38 : decode cJ2_getChar_3b067 38 = .ok (.sipush 255, 3) := by decide +kernel
theorem dJ2_getChar_3b067_41 : decode cJ2_getChar_3b067 41 = .ok (.iand, 1) := by decide +kernel
theorem dJ2_getChar_3b067_42 : decode cJ2_getChar_3b067 42 = .ok (.getstatic 59, 3) := by decide +kernel
theorem dJ2_getChar_3b067_45 : decode cJ2_getChar_3b067 45 = .ok (.ishl, 1) := by decide +kernel
theorem dJ2_getChar_3b067_46 : decode cJ2_getChar_3b067 46 = .ok (.aload_n 0, 1) := by decide +kernel
theorem dJ2_getChar_3b067_47 : decode cJ2_getChar_3b067 47 = .ok (.iload_n 1, 1) := by decide +kernel
theorem dJ2_getChar_3b067_48 : decode cJ2_getChar_3b067 48 = .ok (.baload, 1) := by decide +kernel
theorem dJ2_getChar_3b067_49 : decode cJ2_getChar_3b067 49 = .ok (.sipush 255, 3) := by decide +kernel
theorem dJ2_getChar_3b067_52 : decode cJ2_getChar_3b067 52 = .ok (.iand, 1) := by decide +kernel
theorem dJ2_getChar_3b067_53 : decode cJ2_getChar_3b067 53 = .ok (.getstatic 63, 3) := by decide +kernel
theorem dJ2_getChar_3b067_56 : decode cJ2_getChar_3b067 56 = .ok (.ishl, 1) := by decide +kernel
theorem dJ2_getChar_3b067_57 : decode cJ2_getChar_3b067 57 = .ok (.ior, 1) := by decide +kernel
theorem dJ2_getChar_3b067_58 : decode cJ2_getChar_3b067 58 = .ok (.i2c, 1) := by decide +kernel
theorem dJ2_getChar_3b067_59 : decode cJ2_getChar_3b067 59 = .ok (.ireturn, 1) := by decide +kernel
theorem dJ2_length_9d52b_0 : decode cJ2_length_9d52b 0 = .ok (.aload_n 0, 1) := by decide +kernel
theorem dJ2_length_9d52b_1 : decode cJ2_length_9d52b 1 = .ok (.arraylength, 1) := by decide +kernel
theorem dJ2_length_9d52b_2 : decode cJ2_length_9d52b 2 = .ok (.iconst 1, 1) := by decide +kernel
theorem dJ2_length_9d52b_3 : decode cJ2_length_9d52b 3 = .ok (.ishr, 1) := by decide +kernel
theorem dJ2_length_9d52b_4 : decode cJ2_length_9d52b 4 = .ok (.ireturn, 1) := by decide +kernel
set_option maxRecDepth 20000 in
theorem ggJ2_charAt_3b067_J2_checkIndex_2214a : GoodIn wsJ2_charAt_3b067 wsJ2_checkIndex_2214a := goodIn_r _ [4, 5, 6, 3, 7, 8, 9, 10, 11, 12, 13, 14, 15, 16] (by decide +kernel) (by decide +kernel)
set_option maxRecDepth 20000 in
theorem gJ2_charAt_3b067_J2_checkIndex_2214a : GoodIn wsJ2_charAt_3b067 (va_wsS RJ2 67 yJ2_checkIndex_2214a wsJ2_checkIndex_2214a) := goodIn_app (goodIn_of _ (by decide +kernel)) ggJ2_charAt_3b067_J2_checkIndex_2214a
set_option maxRecDepth 20000 in
theorem ggJ2_charAt_3b067_J2_getChar_3b067 : GoodIn wsJ2_charAt_3b067 wsJ2_getChar_3b067 := goodIn_r _ [19, 20, 21, 22, 5, 6, 3, 7] (by decide +kernel) (by decide +kernel)
set_option maxRecDepth 20000 in
theorem gJ2_charAt_3b067_J2_getChar_3b067 : GoodIn wsJ2_charAt_3b067 (va_wsS RJ2 71 yJ2_getChar_3b067 wsJ2_getChar_3b067) := goodIn_app (goodIn_of _ (by decide +kernel)) ggJ2_charAt_3b067_J2_getChar_3b067
theorem dJ2_charAt_3b067_0 : decode cJ2_charAt_3b067 0 = .ok (.iload_n 1, 1) := by decide +kernel
theorem dJ2_charAt_3b067_1 : decode cJ2_charAt_3b067 1 = .ok (.aload_n 0, 1) := by decide +kernel
theorem dJ2_charAt_3b067_2 : decode cJ2_charAt_3b067 2 = .ok (.invokestatic 67, 3) := by decide +kernel
theorem dJ2_charAt_3b067_5 : decode cJ2_charAt_3b067 5 = .ok (.aload_n 0, 1) := by decide +kernel
theorem dJ2_charAt_3b067_6 : decode cJ2_charAt_3b067 6 = .ok (.iload_n 1, 1) := by decide +kernel
theorem dJ2_charAt_3b067_7 : decode cJ2_charAt_3b067 7 = .ok (.invokestatic 71, 3) := by decide +kernel
theorem dJ2_charAt_3b067_10 : decode cJ2_charAt_3b067 10 = .ok (.ireturn, 1) := by decide +kernel
set_option maxRecDepth 20000 in
theorem ggJ2_checkIndex_2214a_J2_length_9d52b : GoodIn wsJ2_checkIndex_2214a wsJ2_length_9d52b := goodIn_r _ [4] (by decide +kernel) (by decide +kernel)
set_option maxRecDepth 20000 in
theorem gJ2_checkIndex_2214a_J2_length_9d52b : GoodIn wsJ2_checkIndex_2214a (va_wsS RJ2 48 yJ2_length_9d52b wsJ2_length_9d52b) := goodIn_app (goodIn_of _ (by decide +kernel)) ggJ2_checkIndex_2214a_J2_length_9d52b
set_option maxRecDepth 20000 in
theorem ggJ2_checkIndex_2214a_J0_checkIndex_df160 : GoodIn wsJ2_checkIndex_2214a wsJ0_checkIndex_df160 := goodIn_r _ [8, 9, 10, 11, 12, 13] (by decide +kernel) (by decide +kernel)
set_option maxRecDepth 20000 in
theorem gJ2_checkIndex_2214a_J0_checkIndex_df160 : GoodIn wsJ2_checkIndex_2214a (va_wsS RJ2 414 yJ0_checkIndex_df160 wsJ0_checkIndex_df160) := goodIn_app (goodIn_of _ (by decide +kernel)) ggJ2_checkIndex_2214a_J0_checkIndex_df160
theorem dJ2_checkIndex_2214a_0 : decode cJ2_checkIndex_2214a 0 = .ok (.iload_n 0, 1) := by decide +kernel
theorem dJ2_checkIndex_2214a_1 : decode cJ2_checkIndex_2214a 1 = .ok (.aload_n 1, 1) := by decide +kernel
theorem dJ2_checkIndex_2214a_2 : decode cJ2_checkIndex_2214a 2 = .ok (.invokestatic 48, 3) := by decide +kernel
theorem dJ2_checkIndex_2214a_5 : decode cJ2_checkIndex_2214a 5 = .ok (.invokestatic 414, 3) := by decide +kernel
theorem dJ2_checkIndex_2214a_8 : decode cJ2_checkIndex_2214a 8 = .ok (.return_, 1) := by decide +kernel
theorem dJ7_fill_53178_0 : decode cJ7_fill_53178 0 = .ok (.iconst 0, 1) := by decide +kernel
theorem dJ7_fill_53178_1 : decode cJ7_fill_53178 1 = .ok (.istore_n 2, 1) := by decide +kernel
theorem dJ7_fill_53178_2 : decode cJ7_fill_53178 2 = .ok (.aload_n 0, 1) := by decide +kernel
theorem dJ7_fill_53178_3 : decode cJ7_fill_53178 3 = .ok (.arraylength, 1) := by decide +kernel
theorem dJ7_fill_53178_4 : decode cJ7_fill_53178 4 = .ok (.istore_n 3, 1) := by decide +kernel
theorem dJ7_fill_53178_5 : decode cJ7_fill_53178 5 = .ok (.iload_n 2, 1) := by decide +kernel
theorem dJ7_fill_53178_6 : decode cJ7_fill_53178 6 = .ok (.iload_n 3, 1) := by decide +kernel
theorem dJ7_fill_53178_7 : decode cJ7_fill_53178 7 = .ok (.if_icmp .ge 13, 3) := by decide +kernel
theorem dJ7_fill_53178_10 : decode cJ7_fill_53178 10 = .ok (.aload_n 0, 1) := by decide +kernel
theorem dJ7_fill_53178_11 : decode cJ7_fill_53178 11 = .ok (.iload_n 2, 1) := by decide +kernel
theorem dJ7_fill_53178_12 : decode cJ7_fill_53178 12 = .ok (.iload_n 1, 1) := by decide +kernel
theorem dJ7_fill_53178_13 : decode cJ7_fill_53178 13 = .ok (.iastore, 1) := by decide +kernel
theorem dJ7_fill_53178_14 : decode cJ7_fill_53178 14 = .ok (.iinc 2 1, 3) := by decide +kernel
theorem dJ7_fill_53178_17 : decode cJ7_fill_53178 17 = .ok (.goto (-12), 3) := by decide +kernel
theorem dJ7_fill_53178_20 : decode cJ7_fill_53178 20 = .ok (.return_, 1) := by decide +kernel
theorem dJ3_checkIndex_8e157_0 : decode cJ3_checkIndex_8e157 0 = .ok (.iload_n 0, 1) := by decide +kernel
theorem dJ3_checkIndex_8e157_1 : decode cJ3_checkIndex_8e157 1 = .ok (.ifCond .lt 8, 3) := by decide +kernel
theorem dJ3_checkIndex_8e157_4 : decode cJ3_checkIndex_8e157 4 = .ok (.iload_n 0, 1) := by decide +kernel
theorem dJ3_checkIndex_8e157_5 : decode cJ3_checkIndex_8e157 5 = .ok (.iload_n 1, 1) := by decide +kernel
theorem dJ3_checkIndex_8e157_6 : decode cJ3_checkIndex_8e157 6 = .ok (.if_icmp .lt 10, 3) := by decide +kernel
theorem dJ3_checkIndex_8e157_9 : decode cJ3_checkIndex_8e157 9 = .ok (.aload_n 2, 1) := by decide +kernel
theorem dJ3_checkIndex_8e157_10 : decode cJ3_checkIndex_8e157 10 = .ok (.iload_n 0, 1) := by decide +kernel
theorem dJ3_checkIndex_8e157_11 : decode cJ3_checkIndex_8e157 11 = .ok (.iload_n 1, 1) := by decide +kernel
theorem dJ3_checkIndex_8e157_12 : decode cJ3_checkIndex_8e157 12 = .ok (.invokestatic 95, 3) := by decide +kernel
theorem dJ3_checkIndex_8e157_15 : decode cJ3_checkIndex_8e157 15 = .ok (.athrow, 1) := by decide +kernel
theorem dJ3_checkIndex_8e157_16 : decode cJ3_checkIndex_8e157 16 = .ok (.iload_n 0, 1) := by decide +kernel
theorem dJ3_checkIndex_8e157_17 : decode cJ3_checkIndex_8e157 17 = .ok (.ireturn, 1) := by decide +kernel
end
