section
-- ===== PART A: goes FIRST, ahead of the names: the tables' words, and 'selects' of the private methods out of them =====
/-- a private method of a class that the tables say can be made, by its rows of tables_1 -/
def lw_okq (q : MethodName × Nat) : Prop := (q.1.cls ≠ "java/lang/invoke/MethodHandle" ∧ q.1.cls ≠ "java/lang/invoke/VarHandle") ∧ Cond.instantiable q.1.cls q.2 ∈ tables_1 ∧ Cond.privateMethod q.1 ∈ tables_1 ∧ Cond.instanceMethod q.1 ∈ tables_1
theorem lw_p0 : lw_okq (⟨"StillYear", "goBack", "(LStillYear$Moment;)V"⟩, 14) := ⟨⟨by decide +kernel, by decide +kernel⟩, List.mem_of_getElem? (i := 27) (by decide +kernel), List.mem_of_getElem? (i := 285) (by decide +kernel), List.mem_of_getElem? (i := 286) (by decide +kernel)⟩
theorem lw_p1 : lw_okq (⟨"StillYear", "momentNow", "()LStillYear$Moment;"⟩, 14) := ⟨⟨by decide +kernel, by decide +kernel⟩, List.mem_of_getElem? (i := 27) (by decide +kernel), List.mem_of_getElem? (i := 297) (by decide +kernel), List.mem_of_getElem? (i := 298) (by decide +kernel)⟩
theorem lw_p2 : lw_okq (⟨"StillYear$Law", "valueOf", "(I)I"⟩, 4) := ⟨⟨by decide +kernel, by decide +kernel⟩, List.mem_of_getElem? (i := 141) (by decide +kernel), List.mem_of_getElem? (i := 351) (by decide +kernel), List.mem_of_getElem? (i := 352) (by decide +kernel)⟩
theorem lw_p3 : lw_okq (⟨"StillYear$Places", "mostFrom", "(II)I"⟩, 4) := ⟨⟨by decide +kernel, by decide +kernel⟩, List.mem_of_getElem? (i := 66) (by decide +kernel), List.mem_of_getElem? (i := 370) (by decide +kernel), List.mem_of_getElem? (i := 371) (by decide +kernel)⟩
theorem lw_p4 : lw_okq (⟨"StillYear$Places", "togetherBy", "(III)I"⟩, 4) := ⟨⟨by decide +kernel, by decide +kernel⟩, List.mem_of_getElem? (i := 66) (by decide +kernel), List.mem_of_getElem? (i := 377) (by decide +kernel), List.mem_of_getElem? (i := 378) (by decide +kernel)⟩
theorem lw_p5 : lw_okq (⟨"StillYear$Packing", "lay", "(II)V"⟩, 5) := ⟨⟨by decide +kernel, by decide +kernel⟩, List.mem_of_getElem? (i := 390) (by decide +kernel), List.mem_of_getElem? (i := 418) (by decide +kernel), List.mem_of_getElem? (i := 419) (by decide +kernel)⟩
theorem lw_p6 : lw_okq (⟨"StillYear", "openText", "(II)V"⟩, 14) := ⟨⟨by decide +kernel, by decide +kernel⟩, List.mem_of_getElem? (i := 27) (by decide +kernel), List.mem_of_getElem? (i := 459) (by decide +kernel), List.mem_of_getElem? (i := 460) (by decide +kernel)⟩
theorem lw_p7 : lw_okq (⟨"StillYear", "needRange", "(III)V"⟩, 14) := ⟨⟨by decide +kernel, by decide +kernel⟩, List.mem_of_getElem? (i := 27) (by decide +kernel), List.mem_of_getElem? (i := 464) (by decide +kernel), List.mem_of_getElem? (i := 465) (by decide +kernel)⟩
theorem lw_p8 : lw_okq (⟨"StillYear", "refuseArgument", "()I"⟩, 14) := ⟨⟨by decide +kernel, by decide +kernel⟩, List.mem_of_getElem? (i := 27) (by decide +kernel), List.mem_of_getElem? (i := 468) (by decide +kernel), List.mem_of_getElem? (i := 469) (by decide +kernel)⟩
theorem lw_p9 : lw_okq (⟨"java/lang/Throwable", "fillInStackTrace", "(I)Ljava/lang/Throwable;"⟩, 6) := ⟨⟨by decide +kernel, by decide +kernel⟩, List.mem_of_getElem? (i := 509) (by decide +kernel), List.mem_of_getElem? (i := 507) (by decide +kernel), List.mem_of_getElem? (i := 508) (by decide +kernel)⟩
theorem lw_p10 : lw_okq (⟨"StillYear$Tape", "byteAt", "(I)I"⟩, 7) := ⟨⟨by decide +kernel, by decide +kernel⟩, List.mem_of_getElem? (i := 35) (by decide +kernel), List.mem_of_getElem? (i := 546) (by decide +kernel), List.mem_of_getElem? (i := 547) (by decide +kernel)⟩
theorem lw_p11 : lw_okq (⟨"StillYear$Studio", "readClause", "(LStillYear$Tape;I)Z"⟩, 9) := ⟨⟨by decide +kernel, by decide +kernel⟩, List.mem_of_getElem? (i := 87) (by decide +kernel), List.mem_of_getElem? (i := 562) (by decide +kernel), List.mem_of_getElem? (i := 563) (by decide +kernel)⟩
theorem lw_p12 : lw_okq (⟨"StillYear$Studio", "readSeat", "(LStillYear$Tape;)Z"⟩, 9) := ⟨⟨by decide +kernel, by decide +kernel⟩, List.mem_of_getElem? (i := 87) (by decide +kernel), List.mem_of_getElem? (i := 626) (by decide +kernel), List.mem_of_getElem? (i := 627) (by decide +kernel)⟩
theorem lw_p13 : lw_okq (⟨"StillYear$Studio", "readSitter", "(LStillYear$Tape;)Z"⟩, 9) := ⟨⟨by decide +kernel, by decide +kernel⟩, List.mem_of_getElem? (i := 87) (by decide +kernel), List.mem_of_getElem? (i := 641) (by decide +kernel), List.mem_of_getElem? (i := 642) (by decide +kernel)⟩
theorem lw_p14 : lw_okq (⟨"StillYear$Studio", "readSitting", "(LStillYear$Tape;)Z"⟩, 9) := ⟨⟨by decide +kernel, by decide +kernel⟩, List.mem_of_getElem? (i := 87) (by decide +kernel), List.mem_of_getElem? (i := 646) (by decide +kernel), List.mem_of_getElem? (i := 647) (by decide +kernel)⟩
theorem lw_p15 : lw_okq (⟨"StillYear$Studio", "readYear", "(LStillYear$Tape;)Z"⟩, 9) := ⟨⟨by decide +kernel, by decide +kernel⟩, List.mem_of_getElem? (i := 87) (by decide +kernel), List.mem_of_getElem? (i := 651) (by decide +kernel), List.mem_of_getElem? (i := 652) (by decide +kernel)⟩
def lw_privs_1 : List (MethodName × Nat) := [(⟨"StillYear", "goBack", "(LStillYear$Moment;)V"⟩, 14), (⟨"StillYear", "momentNow", "()LStillYear$Moment;"⟩, 14), (⟨"StillYear$Law", "valueOf", "(I)I"⟩, 4), (⟨"StillYear$Places", "mostFrom", "(II)I"⟩, 4), (⟨"StillYear$Places", "togetherBy", "(III)I"⟩, 4), (⟨"StillYear$Packing", "lay", "(II)V"⟩, 5), (⟨"StillYear", "openText", "(II)V"⟩, 14), (⟨"StillYear", "needRange", "(III)V"⟩, 14), (⟨"StillYear", "refuseArgument", "()I"⟩, 14), (⟨"java/lang/Throwable", "fillInStackTrace", "(I)Ljava/lang/Throwable;"⟩, 6), (⟨"StillYear$Tape", "byteAt", "(I)I"⟩, 7), (⟨"StillYear$Studio", "readClause", "(LStillYear$Tape;I)Z"⟩, 9), (⟨"StillYear$Studio", "readSeat", "(LStillYear$Tape;)Z"⟩, 9), (⟨"StillYear$Studio", "readSitter", "(LStillYear$Tape;)Z"⟩, 9), (⟨"StillYear$Studio", "readSitting", "(LStillYear$Tape;)Z"⟩, 9), (⟨"StillYear$Studio", "readYear", "(LStillYear$Tape;)Z"⟩, 9)]
theorem lw_r1 : ∀ q ∈ lw_privs_1, lw_okq q := List.forall_mem_cons.mpr ⟨lw_p0, List.forall_mem_cons.mpr ⟨lw_p1, List.forall_mem_cons.mpr ⟨lw_p2, List.forall_mem_cons.mpr ⟨lw_p3, List.forall_mem_cons.mpr ⟨lw_p4, List.forall_mem_cons.mpr ⟨lw_p5, List.forall_mem_cons.mpr ⟨lw_p6, List.forall_mem_cons.mpr ⟨lw_p7, List.forall_mem_cons.mpr ⟨lw_p8, List.forall_mem_cons.mpr ⟨lw_p9, List.forall_mem_cons.mpr ⟨lw_p10, List.forall_mem_cons.mpr ⟨lw_p11, List.forall_mem_cons.mpr ⟨lw_p12, List.forall_mem_cons.mpr ⟨lw_p13, List.forall_mem_cons.mpr ⟨lw_p14, List.forall_mem_cons.mpr ⟨lw_p15, fun _ h => absurd h List.not_mem_nil⟩⟩⟩⟩⟩⟩⟩⟩⟩⟩⟩⟩⟩⟩⟩⟩
theorem lw_p16 : lw_okq (⟨"StillYear$Studio", "readFood", "(LStillYear$Tape;)Z"⟩, 9) := ⟨⟨by decide +kernel, by decide +kernel⟩, List.mem_of_getElem? (i := 87) (by decide +kernel), List.mem_of_getElem? (i := 656) (by decide +kernel), List.mem_of_getElem? (i := 657) (by decide +kernel)⟩
theorem lw_p17 : lw_okq (⟨"StillYear", "begin", "(LStillYear$Studio;)V"⟩, 14) := ⟨⟨by decide +kernel, by decide +kernel⟩, List.mem_of_getElem? (i := 27) (by decide +kernel), List.mem_of_getElem? (i := 668) (by decide +kernel), List.mem_of_getElem? (i := 669) (by decide +kernel)⟩
theorem lw_p18 : lw_okq (⟨"StillYear$Law", "readSum", "(LStillYear$Tape;I)Z"⟩, 4) := ⟨⟨by decide +kernel, by decide +kernel⟩, List.mem_of_getElem? (i := 141) (by decide +kernel), List.mem_of_getElem? (i := 684) (by decide +kernel), List.mem_of_getElem? (i := 685) (by decide +kernel)⟩
theorem lw_p19 : lw_okq (⟨"StillYear$Law", "readProduct", "(LStillYear$Tape;I)Z"⟩, 4) := ⟨⟨by decide +kernel, by decide +kernel⟩, List.mem_of_getElem? (i := 141) (by decide +kernel), List.mem_of_getElem? (i := 688) (by decide +kernel), List.mem_of_getElem? (i := 689) (by decide +kernel)⟩
theorem lw_p20 : lw_okq (⟨"StillYear$Law", "readUnit", "(LStillYear$Tape;I)Z"⟩, 4) := ⟨⟨by decide +kernel, by decide +kernel⟩, List.mem_of_getElem? (i := 141) (by decide +kernel), List.mem_of_getElem? (i := 692) (by decide +kernel), List.mem_of_getElem? (i := 693) (by decide +kernel)⟩
theorem lw_p21 : lw_okq (⟨"StillYear$Law", "add", "(I)Z"⟩, 4) := ⟨⟨by decide +kernel, by decide +kernel⟩, List.mem_of_getElem? (i := 141) (by decide +kernel), List.mem_of_getElem? (i := 699) (by decide +kernel), List.mem_of_getElem? (i := 700) (by decide +kernel)⟩
theorem lw_p22 : lw_okq (⟨"StillYear$Law", "readBracket", "(LStillYear$Tape;I)Z"⟩, 4) := ⟨⟨by decide +kernel, by decide +kernel⟩, List.mem_of_getElem? (i := 141) (by decide +kernel), List.mem_of_getElem? (i := 703) (by decide +kernel), List.mem_of_getElem? (i := 704) (by decide +kernel)⟩
theorem lw_p23 : lw_okq (⟨"StillYear$Law", "readPair", "(LStillYear$Tape;II)Z"⟩, 4) := ⟨⟨by decide +kernel, by decide +kernel⟩, List.mem_of_getElem? (i := 141) (by decide +kernel), List.mem_of_getElem? (i := 720) (by decide +kernel), List.mem_of_getElem? (i := 721) (by decide +kernel)⟩
theorem lw_p24 : lw_okq (⟨"StillYear$Work", "readEnd", "(LStillYear$Tape;)Z"⟩, 9) := ⟨⟨by decide +kernel, by decide +kernel⟩, List.mem_of_getElem? (i := 744) (by decide +kernel), List.mem_of_getElem? (i := 785) (by decide +kernel), List.mem_of_getElem? (i := 786) (by decide +kernel)⟩
theorem lw_p25 : lw_okq (⟨"StillYear$Work", "add", "(III)Z"⟩, 9) := ⟨⟨by decide +kernel, by decide +kernel⟩, List.mem_of_getElem? (i := 744) (by decide +kernel), List.mem_of_getElem? (i := 790) (by decide +kernel), List.mem_of_getElem? (i := 791) (by decide +kernel)⟩
theorem lw_p26 : lw_okq (⟨"StillYear$Work", "readStep", "(LStillYear$Tape;LStillYear$Studio;)Z"⟩, 9) := ⟨⟨by decide +kernel, by decide +kernel⟩, List.mem_of_getElem? (i := 744) (by decide +kernel), List.mem_of_getElem? (i := 796) (by decide +kernel), List.mem_of_getElem? (i := 797) (by decide +kernel)⟩
theorem lw_p27 : lw_okq (⟨"StillYear$Work", "readNumbered", "(LStillYear$Tape;III)Z"⟩, 9) := ⟨⟨by decide +kernel, by decide +kernel⟩, List.mem_of_getElem? (i := 744) (by decide +kernel), List.mem_of_getElem? (i := 802) (by decide +kernel), List.mem_of_getElem? (i := 803) (by decide +kernel)⟩
theorem lw_p28 : lw_okq (⟨"StillYear$Work", "readAgain", "(LStillYear$Tape;)Z"⟩, 9) := ⟨⟨by decide +kernel, by decide +kernel⟩, List.mem_of_getElem? (i := 744) (by decide +kernel), List.mem_of_getElem? (i := 812) (by decide +kernel), List.mem_of_getElem? (i := 813) (by decide +kernel)⟩
theorem lw_p29 : lw_okq (⟨"StillYear$Work", "behindRound", "(I)I"⟩, 9) := ⟨⟨by decide +kernel, by decide +kernel⟩, List.mem_of_getElem? (i := 744) (by decide +kernel), List.mem_of_getElem? (i := 822) (by decide +kernel), List.mem_of_getElem? (i := 823) (by decide +kernel)⟩
theorem lw_p30 : lw_okq (⟨"StillYear$Work", "intoAgain", "(I)I"⟩, 9) := ⟨⟨by decide +kernel, by decide +kernel⟩, List.mem_of_getElem? (i := 744) (by decide +kernel), List.mem_of_getElem? (i := 826) (by decide +kernel), List.mem_of_getElem? (i := 827) (by decide +kernel)⟩
theorem lw_p31 : lw_okq (⟨"StillYear$Work", "tryStep", "(ILStillYear$Scene;LStillYear$Law;)Z"⟩, 9) := ⟨⟨by decide +kernel, by decide +kernel⟩, List.mem_of_getElem? (i := 744) (by decide +kernel), List.mem_of_getElem? (i := 830) (by decide +kernel), List.mem_of_getElem? (i := 831) (by decide +kernel)⟩
def lw_privs_2 : List (MethodName × Nat) := [(⟨"StillYear$Studio", "readFood", "(LStillYear$Tape;)Z"⟩, 9), (⟨"StillYear", "begin", "(LStillYear$Studio;)V"⟩, 14), (⟨"StillYear$Law", "readSum", "(LStillYear$Tape;I)Z"⟩, 4), (⟨"StillYear$Law", "readProduct", "(LStillYear$Tape;I)Z"⟩, 4), (⟨"StillYear$Law", "readUnit", "(LStillYear$Tape;I)Z"⟩, 4), (⟨"StillYear$Law", "add", "(I)Z"⟩, 4), (⟨"StillYear$Law", "readBracket", "(LStillYear$Tape;I)Z"⟩, 4), (⟨"StillYear$Law", "readPair", "(LStillYear$Tape;II)Z"⟩, 4), (⟨"StillYear$Work", "readEnd", "(LStillYear$Tape;)Z"⟩, 9), (⟨"StillYear$Work", "add", "(III)Z"⟩, 9), (⟨"StillYear$Work", "readStep", "(LStillYear$Tape;LStillYear$Studio;)Z"⟩, 9), (⟨"StillYear$Work", "readNumbered", "(LStillYear$Tape;III)Z"⟩, 9), (⟨"StillYear$Work", "readAgain", "(LStillYear$Tape;)Z"⟩, 9), (⟨"StillYear$Work", "behindRound", "(I)I"⟩, 9), (⟨"StillYear$Work", "intoAgain", "(I)I"⟩, 9), (⟨"StillYear$Work", "tryStep", "(ILStillYear$Scene;LStillYear$Law;)Z"⟩, 9)]
theorem lw_r2 : ∀ q ∈ lw_privs_2, lw_okq q := List.forall_mem_cons.mpr ⟨lw_p16, List.forall_mem_cons.mpr ⟨lw_p17, List.forall_mem_cons.mpr ⟨lw_p18, List.forall_mem_cons.mpr ⟨lw_p19, List.forall_mem_cons.mpr ⟨lw_p20, List.forall_mem_cons.mpr ⟨lw_p21, List.forall_mem_cons.mpr ⟨lw_p22, List.forall_mem_cons.mpr ⟨lw_p23, List.forall_mem_cons.mpr ⟨lw_p24, List.forall_mem_cons.mpr ⟨lw_p25, List.forall_mem_cons.mpr ⟨lw_p26, List.forall_mem_cons.mpr ⟨lw_p27, List.forall_mem_cons.mpr ⟨lw_p28, List.forall_mem_cons.mpr ⟨lw_p29, List.forall_mem_cons.mpr ⟨lw_p30, List.forall_mem_cons.mpr ⟨lw_p31, fun _ h => absurd h List.not_mem_nil⟩⟩⟩⟩⟩⟩⟩⟩⟩⟩⟩⟩⟩⟩⟩⟩
theorem lw_p32 : lw_okq (⟨"StillYear$Book", "readLine", "(LStillYear$Tape;I)Z"⟩, 3) := ⟨⟨by decide +kernel, by decide +kernel⟩, List.mem_of_getElem? (i := 160) (by decide +kernel), List.mem_of_getElem? (i := 885) (by decide +kernel), List.mem_of_getElem? (i := 886) (by decide +kernel)⟩
theorem lw_p33 : lw_okq (⟨"StillYear", "needSeat", "(I)V"⟩, 14) := ⟨⟨by decide +kernel, by decide +kernel⟩, List.mem_of_getElem? (i := 27) (by decide +kernel), List.mem_of_getElem? (i := 929) (by decide +kernel), List.mem_of_getElem? (i := 930) (by decide +kernel)⟩
theorem lw_p34 : lw_okq (⟨"StillYear", "refuseElement", "()I"⟩, 14) := ⟨⟨by decide +kernel, by decide +kernel⟩, List.mem_of_getElem? (i := 27) (by decide +kernel), List.mem_of_getElem? (i := 933) (by decide +kernel), List.mem_of_getElem? (i := 934) (by decide +kernel)⟩
theorem lw_p35 : lw_okq (⟨"StillYear", "needSitter", "(I)V"⟩, 14) := ⟨⟨by decide +kernel, by decide +kernel⟩, List.mem_of_getElem? (i := 27) (by decide +kernel), List.mem_of_getElem? (i := 962) (by decide +kernel), List.mem_of_getElem? (i := 963) (by decide +kernel)⟩
theorem lw_p36 : lw_okq (⟨"StillYear", "needSitting", "(I)V"⟩, 14) := ⟨⟨by decide +kernel, by decide +kernel⟩, List.mem_of_getElem? (i := 27) (by decide +kernel), List.mem_of_getElem? (i := 989) (by decide +kernel), List.mem_of_getElem? (i := 990) (by decide +kernel)⟩
theorem lw_p37 : lw_okq (⟨"StillYear", "mealsFor", "(II)I"⟩, 14) := ⟨⟨by decide +kernel, by decide +kernel⟩, List.mem_of_getElem? (i := 27) (by decide +kernel), List.mem_of_getElem? (i := 1047) (by decide +kernel), List.mem_of_getElem? (i := 1048) (by decide +kernel)⟩
theorem lw_p38 : lw_okq (⟨"StillYear", "daysOn", "(II)I"⟩, 14) := ⟨⟨by decide +kernel, by decide +kernel⟩, List.mem_of_getElem? (i := 27) (by decide +kernel), List.mem_of_getElem? (i := 1059) (by decide +kernel), List.mem_of_getElem? (i := 1060) (by decide +kernel)⟩
theorem lw_p39 : lw_okq (⟨"StillYear$Places", "leastSeat", "(II)I"⟩, 4) := ⟨⟨by decide +kernel, by decide +kernel⟩, List.mem_of_getElem? (i := 66) (by decide +kernel), List.mem_of_getElem? (i := 1094) (by decide +kernel), List.mem_of_getElem? (i := 1095) (by decide +kernel)⟩
theorem lw_p40 : lw_okq (⟨"StillYear", "givenWithin", "(II)I"⟩, 14) := ⟨⟨by decide +kernel, by decide +kernel⟩, List.mem_of_getElem? (i := 27) (by decide +kernel), List.mem_of_getElem? (i := 1133) (by decide +kernel), List.mem_of_getElem? (i := 1134) (by decide +kernel)⟩
theorem lw_p41 : lw_okq (⟨"StillYear", "playSeason", "(III)V"⟩, 14) := ⟨⟨by decide +kernel, by decide +kernel⟩, List.mem_of_getElem? (i := 27) (by decide +kernel), List.mem_of_getElem? (i := 1227) (by decide +kernel), List.mem_of_getElem? (i := 1228) (by decide +kernel)⟩
theorem lw_p42 : lw_okq (⟨"StillYear", "playDrawnSteps", "(LStillYear$Seed;I)V"⟩, 14) := ⟨⟨by decide +kernel, by decide +kernel⟩, List.mem_of_getElem? (i := 27) (by decide +kernel), List.mem_of_getElem? (i := 1241) (by decide +kernel), List.mem_of_getElem? (i := 1242) (by decide +kernel)⟩
theorem lw_p43 : lw_okq (⟨"StillYearModel", "clears", "()V"⟩, 55) := ⟨⟨by decide +kernel, by decide +kernel⟩, List.mem_of_getElem? (i := 1263) (by decide +kernel), List.mem_of_getElem? (i := 1269) (by decide +kernel), List.mem_of_getElem? (i := 1270) (by decide +kernel)⟩
theorem lw_p44 : lw_okq (⟨"StillYearModel", "sets", "()V"⟩, 55) := ⟨⟨by decide +kernel, by decide +kernel⟩, List.mem_of_getElem? (i := 1263) (by decide +kernel), List.mem_of_getElem? (i := 1273) (by decide +kernel), List.mem_of_getElem? (i := 1274) (by decide +kernel)⟩
theorem lw_p45 : lw_okq (⟨"StillYearModel", "copies", "([I[II)V"⟩, 55) := ⟨⟨by decide +kernel, by decide +kernel⟩, List.mem_of_getElem? (i := 1263) (by decide +kernel), List.mem_of_getElem? (i := 1277) (by decide +kernel), List.mem_of_getElem? (i := 1278) (by decide +kernel)⟩
theorem lw_p46 : lw_okq (⟨"StillYearModel", "may", "(ZII)Z"⟩, 55) := ⟨⟨by decide +kernel, by decide +kernel⟩, List.mem_of_getElem? (i := 1263) (by decide +kernel), List.mem_of_getElem? (i := 1459) (by decide +kernel), List.mem_of_getElem? (i := 1460) (by decide +kernel)⟩
theorem lw_p47 : lw_okq (⟨"StillYearModel", "begins", "(I)V"⟩, 55) := ⟨⟨by decide +kernel, by decide +kernel⟩, List.mem_of_getElem? (i := 1263) (by decide +kernel), List.mem_of_getElem? (i := 1463) (by decide +kernel), List.mem_of_getElem? (i := 1464) (by decide +kernel)⟩
def lw_privs_3 : List (MethodName × Nat) := [(⟨"StillYear$Book", "readLine", "(LStillYear$Tape;I)Z"⟩, 3), (⟨"StillYear", "needSeat", "(I)V"⟩, 14), (⟨"StillYear", "refuseElement", "()I"⟩, 14), (⟨"StillYear", "needSitter", "(I)V"⟩, 14), (⟨"StillYear", "needSitting", "(I)V"⟩, 14), (⟨"StillYear", "mealsFor", "(II)I"⟩, 14), (⟨"StillYear", "daysOn", "(II)I"⟩, 14), (⟨"StillYear$Places", "leastSeat", "(II)I"⟩, 4), (⟨"StillYear", "givenWithin", "(II)I"⟩, 14), (⟨"StillYear", "playSeason", "(III)V"⟩, 14), (⟨"StillYear", "playDrawnSteps", "(LStillYear$Seed;I)V"⟩, 14), (⟨"StillYearModel", "clears", "()V"⟩, 55), (⟨"StillYearModel", "sets", "()V"⟩, 55), (⟨"StillYearModel", "copies", "([I[II)V"⟩, 55), (⟨"StillYearModel", "may", "(ZII)Z"⟩, 55), (⟨"StillYearModel", "begins", "(I)V"⟩, 55)]
theorem lw_r3 : ∀ q ∈ lw_privs_3, lw_okq q := List.forall_mem_cons.mpr ⟨lw_p32, List.forall_mem_cons.mpr ⟨lw_p33, List.forall_mem_cons.mpr ⟨lw_p34, List.forall_mem_cons.mpr ⟨lw_p35, List.forall_mem_cons.mpr ⟨lw_p36, List.forall_mem_cons.mpr ⟨lw_p37, List.forall_mem_cons.mpr ⟨lw_p38, List.forall_mem_cons.mpr ⟨lw_p39, List.forall_mem_cons.mpr ⟨lw_p40, List.forall_mem_cons.mpr ⟨lw_p41, List.forall_mem_cons.mpr ⟨lw_p42, List.forall_mem_cons.mpr ⟨lw_p43, List.forall_mem_cons.mpr ⟨lw_p44, List.forall_mem_cons.mpr ⟨lw_p45, List.forall_mem_cons.mpr ⟨lw_p46, List.forall_mem_cons.mpr ⟨lw_p47, fun _ h => absurd h List.not_mem_nil⟩⟩⟩⟩⟩⟩⟩⟩⟩⟩⟩⟩⟩⟩⟩⟩
theorem lw_p48 : lw_okq (⟨"StillYearModel", "fine", "()Z"⟩, 55) := ⟨⟨by decide +kernel, by decide +kernel⟩, List.mem_of_getElem? (i := 1263) (by decide +kernel), List.mem_of_getElem? (i := 1467) (by decide +kernel), List.mem_of_getElem? (i := 1468) (by decide +kernel)⟩
theorem lw_p49 : lw_okq (⟨"StillYearModel", "isMore", "()Z"⟩, 55) := ⟨⟨by decide +kernel, by decide +kernel⟩, List.mem_of_getElem? (i := 1263) (by decide +kernel), List.mem_of_getElem? (i := 1471) (by decide +kernel), List.mem_of_getElem? (i := 1472) (by decide +kernel)⟩
theorem lw_p50 : lw_okq (⟨"StillYearModel", "here", "()I"⟩, 55) := ⟨⟨by decide +kernel, by decide +kernel⟩, List.mem_of_getElem? (i := 1263) (by decide +kernel), List.mem_of_getElem? (i := 1475) (by decide +kernel), List.mem_of_getElem? (i := 1476) (by decide +kernel)⟩
theorem lw_p51 : lw_okq (⟨"StillYearModel", "standsHere", "(Ljava/lang/String;)Z"⟩, 55) := ⟨⟨by decide +kernel, by decide +kernel⟩, List.mem_of_getElem? (i := 1263) (by decide +kernel), List.mem_of_getElem? (i := 1480) (by decide +kernel), List.mem_of_getElem? (i := 1481) (by decide +kernel)⟩
theorem lw_p52 : lw_okq (⟨"StillYearModel", "word", "()I"⟩, 55) := ⟨⟨by decide +kernel, by decide +kernel⟩, List.mem_of_getElem? (i := 1263) (by decide +kernel), List.mem_of_getElem? (i := 1489) (by decide +kernel), List.mem_of_getElem? (i := 1490) (by decide +kernel)⟩
theorem lw_p53 : lw_okq (⟨"StillYearModel", "wrong", "(II)V"⟩, 55) := ⟨⟨by decide +kernel, by decide +kernel⟩, List.mem_of_getElem? (i := 1263) (by decide +kernel), List.mem_of_getElem? (i := 1503) (by decide +kernel), List.mem_of_getElem? (i := 1504) (by decide +kernel)⟩
theorem lw_p54 : lw_okq (⟨"StillYearModel", "isFull", "(IZ)Z"⟩, 55) := ⟨⟨by decide +kernel, by decide +kernel⟩, List.mem_of_getElem? (i := 1263) (by decide +kernel), List.mem_of_getElem? (i := 1507) (by decide +kernel), List.mem_of_getElem? (i := 1508) (by decide +kernel)⟩
theorem lw_p55 : lw_okq (⟨"StillYearModel", "pass", "()V"⟩, 55) := ⟨⟨by decide +kernel, by decide +kernel⟩, List.mem_of_getElem? (i := 1263) (by decide +kernel), List.mem_of_getElem? (i := 1511) (by decide +kernel), List.mem_of_getElem? (i := 1512) (by decide +kernel)⟩
theorem lw_p56 : lw_okq (⟨"StillYearModel", "readRow", "(IZ)V"⟩, 55) := ⟨⟨by decide +kernel, by decide +kernel⟩, List.mem_of_getElem? (i := 1263) (by decide +kernel), List.mem_of_getElem? (i := 1515) (by decide +kernel), List.mem_of_getElem? (i := 1516) (by decide +kernel)⟩
theorem lw_p57 : lw_okq (⟨"StillYearModel", "readNumber", "(II)I"⟩, 55) := ⟨⟨by decide +kernel, by decide +kernel⟩, List.mem_of_getElem? (i := 1263) (by decide +kernel), List.mem_of_getElem? (i := 1519) (by decide +kernel), List.mem_of_getElem? (i := 1520) (by decide +kernel)⟩
theorem lw_p58 : lw_okq (⟨"StillYearModel", "sign", "(I)V"⟩, 55) := ⟨⟨by decide +kernel, by decide +kernel⟩, List.mem_of_getElem? (i := 1263) (by decide +kernel), List.mem_of_getElem? (i := 1526) (by decide +kernel), List.mem_of_getElem? (i := 1527) (by decide +kernel)⟩
theorem lw_p59 : lw_okq (⟨"StillYearModel", "result", "(I)I"⟩, 55) := ⟨⟨by decide +kernel, by decide +kernel⟩, List.mem_of_getElem? (i := 1263) (by decide +kernel), List.mem_of_getElem? (i := 1530) (by decide +kernel), List.mem_of_getElem? (i := 1531) (by decide +kernel)⟩
theorem lw_p60 : lw_okq (⟨"StillYearModel", "readSum", "()V"⟩, 55) := ⟨⟨by decide +kernel, by decide +kernel⟩, List.mem_of_getElem? (i := 1263) (by decide +kernel), List.mem_of_getElem? (i := 1538) (by decide +kernel), List.mem_of_getElem? (i := 1539) (by decide +kernel)⟩
theorem lw_p61 : lw_okq (⟨"StillYearModel", "readProduct", "()V"⟩, 55) := ⟨⟨by decide +kernel, by decide +kernel⟩, List.mem_of_getElem? (i := 1263) (by decide +kernel), List.mem_of_getElem? (i := 1542) (by decide +kernel), List.mem_of_getElem? (i := 1543) (by decide +kernel)⟩
theorem lw_p62 : lw_okq (⟨"StillYearModel", "readUnit", "()V"⟩, 55) := ⟨⟨by decide +kernel, by decide +kernel⟩, List.mem_of_getElem? (i := 1263) (by decide +kernel), List.mem_of_getElem? (i := 1546) (by decide +kernel), List.mem_of_getElem? (i := 1547) (by decide +kernel)⟩
theorem lw_p63 : lw_okq (⟨"StillYearModel", "opensOne", "(I)V"⟩, 55) := ⟨⟨by decide +kernel, by decide +kernel⟩, List.mem_of_getElem? (i := 1263) (by decide +kernel), List.mem_of_getElem? (i := 1550) (by decide +kernel), List.mem_of_getElem? (i := 1551) (by decide +kernel)⟩
def lw_privs_4 : List (MethodName × Nat) := [(⟨"StillYearModel", "fine", "()Z"⟩, 55), (⟨"StillYearModel", "isMore", "()Z"⟩, 55), (⟨"StillYearModel", "here", "()I"⟩, 55), (⟨"StillYearModel", "standsHere", "(Ljava/lang/String;)Z"⟩, 55), (⟨"StillYearModel", "word", "()I"⟩, 55), (⟨"StillYearModel", "wrong", "(II)V"⟩, 55), (⟨"StillYearModel", "isFull", "(IZ)Z"⟩, 55), (⟨"StillYearModel", "pass", "()V"⟩, 55), (⟨"StillYearModel", "readRow", "(IZ)V"⟩, 55), (⟨"StillYearModel", "readNumber", "(II)I"⟩, 55), (⟨"StillYearModel", "sign", "(I)V"⟩, 55), (⟨"StillYearModel", "result", "(I)I"⟩, 55), (⟨"StillYearModel", "readSum", "()V"⟩, 55), (⟨"StillYearModel", "readProduct", "()V"⟩, 55), (⟨"StillYearModel", "readUnit", "()V"⟩, 55), (⟨"StillYearModel", "opensOne", "(I)V"⟩, 55)]
theorem lw_r4 : ∀ q ∈ lw_privs_4, lw_okq q := List.forall_mem_cons.mpr ⟨lw_p48, List.forall_mem_cons.mpr ⟨lw_p49, List.forall_mem_cons.mpr ⟨lw_p50, List.forall_mem_cons.mpr ⟨lw_p51, List.forall_mem_cons.mpr ⟨lw_p52, List.forall_mem_cons.mpr ⟨lw_p53, List.forall_mem_cons.mpr ⟨lw_p54, List.forall_mem_cons.mpr ⟨lw_p55, List.forall_mem_cons.mpr ⟨lw_p56, List.forall_mem_cons.mpr ⟨lw_p57, List.forall_mem_cons.mpr ⟨lw_p58, List.forall_mem_cons.mpr ⟨lw_p59, List.forall_mem_cons.mpr ⟨lw_p60, List.forall_mem_cons.mpr ⟨lw_p61, List.forall_mem_cons.mpr ⟨lw_p62, List.forall_mem_cons.mpr ⟨lw_p63, fun _ h => absurd h List.not_mem_nil⟩⟩⟩⟩⟩⟩⟩⟩⟩⟩⟩⟩⟩⟩⟩⟩
theorem lw_p64 : lw_okq (⟨"StillYearModel", "emit", "(II)V"⟩, 55) := ⟨⟨by decide +kernel, by decide +kernel⟩, List.mem_of_getElem? (i := 1263) (by decide +kernel), List.mem_of_getElem? (i := 1554) (by decide +kernel), List.mem_of_getElem? (i := 1555) (by decide +kernel)⟩
theorem lw_p65 : lw_okq (⟨"StillYearModel", "readTwo", "(II)V"⟩, 55) := ⟨⟨by decide +kernel, by decide +kernel⟩, List.mem_of_getElem? (i := 1263) (by decide +kernel), List.mem_of_getElem? (i := 1559) (by decide +kernel), List.mem_of_getElem? (i := 1560) (by decide +kernel)⟩
theorem lw_p66 : lw_okq (⟨"StillYearModel", "factHere", "()I"⟩, 55) := ⟨⟨by decide +kernel, by decide +kernel⟩, List.mem_of_getElem? (i := 1263) (by decide +kernel), List.mem_of_getElem? (i := 1564) (by decide +kernel), List.mem_of_getElem? (i := 1565) (by decide +kernel)⟩
theorem lw_p67 : lw_okq (⟨"StillYearModel", "readStep", "()V"⟩, 55) := ⟨⟨by decide +kernel, by decide +kernel⟩, List.mem_of_getElem? (i := 1263) (by decide +kernel), List.mem_of_getElem? (i := 1578) (by decide +kernel), List.mem_of_getElem? (i := 1579) (by decide +kernel)⟩
theorem lw_p68 : lw_okq (⟨"StillYearModel", "tellsStep", "(III)V"⟩, 55) := ⟨⟨by decide +kernel, by decide +kernel⟩, List.mem_of_getElem? (i := 1263) (by decide +kernel), List.mem_of_getElem? (i := 1583) (by decide +kernel), List.mem_of_getElem? (i := 1584) (by decide +kernel)⟩
theorem lw_p69 : lw_okq (⟨"StillYearModel", "take", "()V"⟩, 55) := ⟨⟨by decide +kernel, by decide +kernel⟩, List.mem_of_getElem? (i := 1263) (by decide +kernel), List.mem_of_getElem? (i := 1591) (by decide +kernel), List.mem_of_getElem? (i := 1592) (by decide +kernel)⟩
theorem lw_p70 : lw_okq (⟨"StillYearModel", "goesSteps", "(II)V"⟩, 55) := ⟨⟨by decide +kernel, by decide +kernel⟩, List.mem_of_getElem? (i := 1263) (by decide +kernel), List.mem_of_getElem? (i := 1595) (by decide +kernel), List.mem_of_getElem? (i := 1596) (by decide +kernel)⟩
theorem lw_p71 : lw_okq (⟨"StillYearModel", "goes", "(III)Z"⟩, 55) := ⟨⟨by decide +kernel, by decide +kernel⟩, List.mem_of_getElem? (i := 1263) (by decide +kernel), List.mem_of_getElem? (i := 1599) (by decide +kernel), List.mem_of_getElem? (i := 1600) (by decide +kernel)⟩
theorem lw_p72 : lw_okq (⟨"StillYearModel", "sits", "(II)Z"⟩, 55) := ⟨⟨by decide +kernel, by decide +kernel⟩, List.mem_of_getElem? (i := 1263) (by decide +kernel), List.mem_of_getElem? (i := 1603) (by decide +kernel), List.mem_of_getElem? (i := 1604) (by decide +kernel)⟩
theorem lw_p73 : lw_okq (⟨"StillYearModel", "onSeat", "(I)I"⟩, 55) := ⟨⟨by decide +kernel, by decide +kernel⟩, List.mem_of_getElem? (i := 1263) (by decide +kernel), List.mem_of_getElem? (i := 1607) (by decide +kernel), List.mem_of_getElem? (i := 1608) (by decide +kernel)⟩
theorem lw_p74 : lw_okq (⟨"StillYearModel", "feeds", "(I)Z"⟩, 55) := ⟨⟨by decide +kernel, by decide +kernel⟩, List.mem_of_getElem? (i := 1263) (by decide +kernel), List.mem_of_getElem? (i := 1611) (by decide +kernel), List.mem_of_getElem? (i := 1612) (by decide +kernel)⟩
theorem lw_p75 : lw_okq (⟨"StillYearModel", "rises", "(I)V"⟩, 55) := ⟨⟨by decide +kernel, by decide +kernel⟩, List.mem_of_getElem? (i := 1263) (by decide +kernel), List.mem_of_getElem? (i := 1615) (by decide +kernel), List.mem_of_getElem? (i := 1616) (by decide +kernel)⟩
theorem lw_p76 : lw_okq (⟨"StillYearModel", "passes", "()V"⟩, 55) := ⟨⟨by decide +kernel, by decide +kernel⟩, List.mem_of_getElem? (i := 1263) (by decide +kernel), List.mem_of_getElem? (i := 1619) (by decide +kernel), List.mem_of_getElem? (i := 1620) (by decide +kernel)⟩
theorem lw_p77 : lw_okq (⟨"StillYearModel", "markBy", "(I)I"⟩, 55) := ⟨⟨by decide +kernel, by decide +kernel⟩, List.mem_of_getElem? (i := 1263) (by decide +kernel), List.mem_of_getElem? (i := 1623) (by decide +kernel), List.mem_of_getElem? (i := 1624) (by decide +kernel)⟩
theorem lw_p78 : lw_okq (⟨"StillYearModel", "sitsAll", "()I"⟩, 55) := ⟨⟨by decide +kernel, by decide +kernel⟩, List.mem_of_getElem? (i := 1263) (by decide +kernel), List.mem_of_getElem? (i := 1627) (by decide +kernel), List.mem_of_getElem? (i := 1628) (by decide +kernel)⟩
theorem lw_p79 : lw_okq (⟨"StillYearModel", "markOf", "(IIIIIIII)I"⟩, 55) := ⟨⟨by decide +kernel, by decide +kernel⟩, List.mem_of_getElem? (i := 1263) (by decide +kernel), List.mem_of_getElem? (i := 1634) (by decide +kernel), List.mem_of_getElem? (i := 1635) (by decide +kernel)⟩
def lw_privs_5 : List (MethodName × Nat) := [(⟨"StillYearModel", "emit", "(II)V"⟩, 55), (⟨"StillYearModel", "readTwo", "(II)V"⟩, 55), (⟨"StillYearModel", "factHere", "()I"⟩, 55), (⟨"StillYearModel", "readStep", "()V"⟩, 55), (⟨"StillYearModel", "tellsStep", "(III)V"⟩, 55), (⟨"StillYearModel", "take", "()V"⟩, 55), (⟨"StillYearModel", "goesSteps", "(II)V"⟩, 55), (⟨"StillYearModel", "goes", "(III)Z"⟩, 55), (⟨"StillYearModel", "sits", "(II)Z"⟩, 55), (⟨"StillYearModel", "onSeat", "(I)I"⟩, 55), (⟨"StillYearModel", "feeds", "(I)Z"⟩, 55), (⟨"StillYearModel", "rises", "(I)V"⟩, 55), (⟨"StillYearModel", "passes", "()V"⟩, 55), (⟨"StillYearModel", "markBy", "(I)I"⟩, 55), (⟨"StillYearModel", "sitsAll", "()I"⟩, 55), (⟨"StillYearModel", "markOf", "(IIIIIIII)I"⟩, 55)]
theorem lw_r5 : ∀ q ∈ lw_privs_5, lw_okq q := List.forall_mem_cons.mpr ⟨lw_p64, List.forall_mem_cons.mpr ⟨lw_p65, List.forall_mem_cons.mpr ⟨lw_p66, List.forall_mem_cons.mpr ⟨lw_p67, List.forall_mem_cons.mpr ⟨lw_p68, List.forall_mem_cons.mpr ⟨lw_p69, List.forall_mem_cons.mpr ⟨lw_p70, List.forall_mem_cons.mpr ⟨lw_p71, List.forall_mem_cons.mpr ⟨lw_p72, List.forall_mem_cons.mpr ⟨lw_p73, List.forall_mem_cons.mpr ⟨lw_p74, List.forall_mem_cons.mpr ⟨lw_p75, List.forall_mem_cons.mpr ⟨lw_p76, List.forall_mem_cons.mpr ⟨lw_p77, List.forall_mem_cons.mpr ⟨lw_p78, List.forall_mem_cons.mpr ⟨lw_p79, fun _ h => absurd h List.not_mem_nil⟩⟩⟩⟩⟩⟩⟩⟩⟩⟩⟩⟩⟩⟩⟩⟩
theorem lw_p80 : lw_okq (⟨"StillYearModel", "markNow", "()I"⟩, 55) := ⟨⟨by decide +kernel, by decide +kernel⟩, List.mem_of_getElem? (i := 1263) (by decide +kernel), List.mem_of_getElem? (i := 1638) (by decide +kernel), List.mem_of_getElem? (i := 1639) (by decide +kernel)⟩
theorem lw_p81 : lw_okq (⟨"StillYearModel", "valueNow", "()I"⟩, 55) := ⟨⟨by decide +kernel, by decide +kernel⟩, List.mem_of_getElem? (i := 1263) (by decide +kernel), List.mem_of_getElem? (i := 1642) (by decide +kernel), List.mem_of_getElem? (i := 1643) (by decide +kernel)⟩
theorem lw_p82 : lw_okq (⟨"StillYearModel", "allOnPlate", "()I"⟩, 55) := ⟨⟨by decide +kernel, by decide +kernel⟩, List.mem_of_getElem? (i := 1263) (by decide +kernel), List.mem_of_getElem? (i := 1664) (by decide +kernel), List.mem_of_getElem? (i := 1665) (by decide +kernel)⟩
theorem lw_p83 : lw_okq (⟨"StillYearModel", "allOn", "(I)I"⟩, 55) := ⟨⟨by decide +kernel, by decide +kernel⟩, List.mem_of_getElem? (i := 1263) (by decide +kernel), List.mem_of_getElem? (i := 1668) (by decide +kernel), List.mem_of_getElem? (i := 1669) (by decide +kernel)⟩
theorem lw_p84 : lw_okq (⟨"StillYearModel", "unseen", "()I"⟩, 55) := ⟨⟨by decide +kernel, by decide +kernel⟩, List.mem_of_getElem? (i := 1263) (by decide +kernel), List.mem_of_getElem? (i := 1672) (by decide +kernel), List.mem_of_getElem? (i := 1673) (by decide +kernel)⟩
theorem lw_p85 : lw_okq (⟨"StillYearModel", "seenOn", "(I)I"⟩, 55) := ⟨⟨by decide +kernel, by decide +kernel⟩, List.mem_of_getElem? (i := 1263) (by decide +kernel), List.mem_of_getElem? (i := 1676) (by decide +kernel), List.mem_of_getElem? (i := 1677) (by decide +kernel)⟩
theorem lw_p86 : lw_okq (⟨"StillYearModel", "isSeat", "(II)Z"⟩, 55) := ⟨⟨by decide +kernel, by decide +kernel⟩, List.mem_of_getElem? (i := 1263) (by decide +kernel), List.mem_of_getElem? (i := 1684) (by decide +kernel), List.mem_of_getElem? (i := 1685) (by decide +kernel)⟩
theorem lw_p87 : lw_okq (⟨"StillYearModel", "isSitter", "(II)Z"⟩, 55) := ⟨⟨by decide +kernel, by decide +kernel⟩, List.mem_of_getElem? (i := 1263) (by decide +kernel), List.mem_of_getElem? (i := 1692) (by decide +kernel), List.mem_of_getElem? (i := 1693) (by decide +kernel)⟩
theorem lw_p88 : lw_okq (⟨"StillYearModel", "ofHim", "(II)I"⟩, 55) := ⟨⟨by decide +kernel, by decide +kernel⟩, List.mem_of_getElem? (i := 1263) (by decide +kernel), List.mem_of_getElem? (i := 1696) (by decide +kernel), List.mem_of_getElem? (i := 1697) (by decide +kernel)⟩
theorem lw_p89 : lw_okq (⟨"StillYearModel", "mealsOf", "(II)I"⟩, 55) := ⟨⟨by decide +kernel, by decide +kernel⟩, List.mem_of_getElem? (i := 1263) (by decide +kernel), List.mem_of_getElem? (i := 1735) (by decide +kernel), List.mem_of_getElem? (i := 1736) (by decide +kernel)⟩
theorem lw_p90 : lw_okq (⟨"StillYearModel", "firstMark", "(II)I"⟩, 55) := ⟨⟨by decide +kernel, by decide +kernel⟩, List.mem_of_getElem? (i := 1263) (by decide +kernel), List.mem_of_getElem? (i := 1743) (by decide +kernel), List.mem_of_getElem? (i := 1744) (by decide +kernel)⟩
theorem lw_p91 : lw_okq (⟨"StillYearModel", "layPlaces", "()V"⟩, 55) := ⟨⟨by decide +kernel, by decide +kernel⟩, List.mem_of_getElem? (i := 1263) (by decide +kernel), List.mem_of_getElem? (i := 1759) (by decide +kernel), List.mem_of_getElem? (i := 1760) (by decide +kernel)⟩
theorem lw_p92 : lw_okq (⟨"StillYearModel", "findPacking", "()I"⟩, 55) := ⟨⟨by decide +kernel, by decide +kernel⟩, List.mem_of_getElem? (i := 1263) (by decide +kernel), List.mem_of_getElem? (i := 1771) (by decide +kernel), List.mem_of_getElem? (i := 1772) (by decide +kernel)⟩
theorem lw_p93 : lw_okq (⟨"StillYearModel", "lays", "(II)Z"⟩, 55) := ⟨⟨by decide +kernel, by decide +kernel⟩, List.mem_of_getElem? (i := 1263) (by decide +kernel), List.mem_of_getElem? (i := 1775) (by decide +kernel), List.mem_of_getElem? (i := 1776) (by decide +kernel)⟩
theorem lw_p94 : lw_okq (⟨"StillYearModel", "givenBy", "(II)I"⟩, 55) := ⟨⟨by decide +kernel, by decide +kernel⟩, List.mem_of_getElem? (i := 1263) (by decide +kernel), List.mem_of_getElem? (i := 1799) (by decide +kernel), List.mem_of_getElem? (i := 1800) (by decide +kernel)⟩
theorem lw_p95 : lw_okq (⟨"StillYearModel", "seasonGoes", "(III)V"⟩, 55) := ⟨⟨by decide +kernel, by decide +kernel⟩, List.mem_of_getElem? (i := 1263) (by decide +kernel), List.mem_of_getElem? (i := 1858) (by decide +kernel), List.mem_of_getElem? (i := 1859) (by decide +kernel)⟩
def lw_privs_6 : List (MethodName × Nat) := [(⟨"StillYearModel", "markNow", "()I"⟩, 55), (⟨"StillYearModel", "valueNow", "()I"⟩, 55), (⟨"StillYearModel", "allOnPlate", "()I"⟩, 55), (⟨"StillYearModel", "allOn", "(I)I"⟩, 55), (⟨"StillYearModel", "unseen", "()I"⟩, 55), (⟨"StillYearModel", "seenOn", "(I)I"⟩, 55), (⟨"StillYearModel", "isSeat", "(II)Z"⟩, 55), (⟨"StillYearModel", "isSitter", "(II)Z"⟩, 55), (⟨"StillYearModel", "ofHim", "(II)I"⟩, 55), (⟨"StillYearModel", "mealsOf", "(II)I"⟩, 55), (⟨"StillYearModel", "firstMark", "(II)I"⟩, 55), (⟨"StillYearModel", "layPlaces", "()V"⟩, 55), (⟨"StillYearModel", "findPacking", "()I"⟩, 55), (⟨"StillYearModel", "lays", "(II)Z"⟩, 55), (⟨"StillYearModel", "givenBy", "(II)I"⟩, 55), (⟨"StillYearModel", "seasonGoes", "(III)V"⟩, 55)]
theorem lw_r6 : ∀ q ∈ lw_privs_6, lw_okq q := List.forall_mem_cons.mpr ⟨lw_p80, List.forall_mem_cons.mpr ⟨lw_p81, List.forall_mem_cons.mpr ⟨lw_p82, List.forall_mem_cons.mpr ⟨lw_p83, List.forall_mem_cons.mpr ⟨lw_p84, List.forall_mem_cons.mpr ⟨lw_p85, List.forall_mem_cons.mpr ⟨lw_p86, List.forall_mem_cons.mpr ⟨lw_p87, List.forall_mem_cons.mpr ⟨lw_p88, List.forall_mem_cons.mpr ⟨lw_p89, List.forall_mem_cons.mpr ⟨lw_p90, List.forall_mem_cons.mpr ⟨lw_p91, List.forall_mem_cons.mpr ⟨lw_p92, List.forall_mem_cons.mpr ⟨lw_p93, List.forall_mem_cons.mpr ⟨lw_p94, List.forall_mem_cons.mpr ⟨lw_p95, fun _ h => absurd h List.not_mem_nil⟩⟩⟩⟩⟩⟩⟩⟩⟩⟩⟩⟩⟩⟩⟩⟩
theorem lw_p96 : lw_okq (⟨"StillYearModel", "draws", "(I)I"⟩, 55) := ⟨⟨by decide +kernel, by decide +kernel⟩, List.mem_of_getElem? (i := 1263) (by decide +kernel), List.mem_of_getElem? (i := 1862) (by decide +kernel), List.mem_of_getElem? (i := 1863) (by decide +kernel)⟩
theorem lw_p97 : lw_okq (⟨"StillYearModel", "keepsAll", "(IZ)V"⟩, 55) := ⟨⟨by decide +kernel, by decide +kernel⟩, List.mem_of_getElem? (i := 1263) (by decide +kernel), List.mem_of_getElem? (i := 1875) (by decide +kernel), List.mem_of_getElem? (i := 1876) (by decide +kernel)⟩
theorem lw_p98 : lw_okq (⟨"StillYearModel", "keepsRow", "(I[IIZ)I"⟩, 55) := ⟨⟨by decide +kernel, by decide +kernel⟩, List.mem_of_getElem? (i := 1263) (by decide +kernel), List.mem_of_getElem? (i := 1879) (by decide +kernel), List.mem_of_getElem? (i := 1880) (by decide +kernel)⟩
def lw_privs_7 : List (MethodName × Nat) := [(⟨"StillYearModel", "draws", "(I)I"⟩, 55), (⟨"StillYearModel", "keepsAll", "(IZ)V"⟩, 55), (⟨"StillYearModel", "keepsRow", "(I[IIZ)I"⟩, 55)]
theorem lw_r7 : ∀ q ∈ lw_privs_7, lw_okq q := List.forall_mem_cons.mpr ⟨lw_p96, List.forall_mem_cons.mpr ⟨lw_p97, List.forall_mem_cons.mpr ⟨lw_p98, fun _ h => absurd h List.not_mem_nil⟩⟩⟩
def lw_privs : List (MethodName × Nat) := lw_privs_1 ++ (lw_privs_2 ++ (lw_privs_3 ++ (lw_privs_4 ++ (lw_privs_5 ++ (lw_privs_6 ++ (lw_privs_7))))))
def lw_tbl : List Cond := k2_sels lw_privs ++ tables_1
theorem lw_privs_ok : ∀ q ∈ lw_privs, lw_okq q := by
  show ∀ q ∈ lw_privs_1 ++ (lw_privs_2 ++ (lw_privs_3 ++ (lw_privs_4 ++ (lw_privs_5 ++ (lw_privs_6 ++ (lw_privs_7)))))), lw_okq q
  exact List.forall_mem_append.mpr ⟨lw_r1, List.forall_mem_append.mpr ⟨lw_r2, List.forall_mem_append.mpr ⟨lw_r3, List.forall_mem_append.mpr ⟨lw_r4, List.forall_mem_append.mpr ⟨lw_r5, List.forall_mem_append.mpr ⟨lw_r6, lw_r7⟩⟩⟩⟩⟩⟩
/-! ===== BEGIN words of one list among another's, by their places ===== -/
theorem goodIn_r {big : List Cond} (ws : List Cond) (ps : List Nat) (hp : ws = ps.filterMap (fun i => big[i]?)) (h : ws.all goodWord = true) : GoodIn big ws := by
  intro w hw
  have h1 := List.all_eq_true.mp h w hw
  rw [hp] at hw
  obtain ⟨i, -, hi⟩ := List.mem_filterMap.mp hw
  have hm : w ∈ big := by first | exact List.mem_of_getElem? hi | exact List.getElem?_mem hi
  exact ⟨hm, good_of_word h1⟩
theorem goodIn_app {big a b : List Cond} (ha : GoodIn big a) (hb : GoodIn big b) : GoodIn big (a ++ b) := fun w h => (List.mem_append.mp h).elim (ha w) (hb w)
theorem goodIn_ca {big a b : List Cond} {c : Cond} (ha : GoodIn big (c :: a)) (hb : GoodIn big b) : GoodIn big (c :: (a ++ b)) := fun w h => (List.mem_cons.mp h).elim (fun e => ha w (List.mem_cons.mpr (Or.inl e))) (fun h => (List.mem_append.mp h).elim (fun h => ha w (List.mem_cons.mpr (Or.inr h))) (hb w))
theorem goodIn_sub {big ws : List Cond} (hm : ∀ w ∈ ws, w ∈ big) (h : ws.all goodWord = true) : GoodIn big ws := fun w hw => ⟨hm w hw, good_of_word (List.all_eq_true.mp h w hw)⟩
/-! ===== END ===== -/

/-! ===== BEGIN exceptions that leave a method, and their catching by the caller (launches without stack traces) ===== -/
section VXA
/-! The laws vx_back, vx_callV, vx_callS, vx_callSW, vx_throw0, vx_throwS follow proofs of the library, with one case more: JvmDerived/Free/Laws.lean (Back.of_free), Shelf42/LK1.lean (callV, callS), Shelf/KitTraced.lean (throwNew0V, throwNewS). -/
/-- where a method has thrown q: the class by its name, the cell, what was written, the world -/
def vx_T (XC : String → State → State → Prop) (st : State) (q : Addr) (t : State) (mc ms : Nat) (free : Addr → Prop) : Prop :=
  ∃ (E : String) (ce : Cell) (L : List Loc), XC E st t ∧ t.heap[q]? = some ce ∧ ce.vm = .none ∧ st.vm.findClass E = some ce.cls ∧ st.WarmedH t.vm ∧ st.sameButNew ({ t with vm := st.vm } : State) L mc ms ∧ ∀ z ∈ L, free z.base
def vx_Q (Qc : Array Value → State → Outcome → State → Prop) (XC : String → State → State → Prop) (mc ms : Nat) (free : Addr → Prop) : Array Value → State → Outcome → State → Prop := fun a st o t =>
  (Qc a st o t ∧ ∃ L, FrameEnd st o t L mc ms ∧ ∀ q ∈ L, free q.base) ∨ ∃ q, o = .threw q ∧ vx_T XC st q t mc ms free
/-- a callee that returns or throws -/
def vx_Met (l : Launch) (y : MethodName) (ws : List Cond) (rm : Room) (Pc : Array Value → State → Prop) (Qc : Array Value → State → Outcome → State → Prop) (XC : String → State → State → Prop) (mc ms : Nat) (free : Addr → Prop) : Prop :=
  MetFree l y (headSpec ws rm) Pc (fun _ _ _ _ _ => True) (vx_Q Qc XC mc ms free)
def vx_Post (XC : String → State → State → Prop) (mc ms : Nat) (free : Addr → Prop) : Pt → Array Value → Addr → Pt → Prop := fun A a q B =>
  ∃ (g : JFrame) (mk : MethodId) (t : State) (L : List Loc) (E : String) (ce : Cell), B.U.heap = t.heap ∧ B.U.vm = t.vm ∧ XC E (A.U.calling g mk a) t ∧ t.heap[q]? = some ce ∧ ce.vm = .none ∧ A.U.vm.findClass E = some ce.cls ∧ B.locs = A.locs ++ L ∧ (∀ z ∈ L, free z.base) ∧ B.cells = A.cells + mc ∧ B.slots = A.slots + ms
def vx_Back (l : Launch) (R : Room) (p : Program) (e : Env) (below : List Frame) (s : State) (sargs : Array Value) (y : MethodName) (len W9 : Nat)
    (Pre : Pt → Array Value → Prop) (Post : Pt → Array Value → Option Value → Pt → Prop) (PostX : Pt → Array Value → Addr → Pt → Prop) : Prop :=
  ∀ (m : MethodId) (meth : Method) (c : Code) (A : Pt) (g : JFrame) (ig : Instr) (mk : MethodId) (a : Array Value),
    Stand p l e R s m sargs below meth c A.U A.locs A.cells A.slots → g.method = m → g.locals.size = c.maxLocals → decode c.code g.pc = .ok (ig, len) →
    2 * g.monitorRoom + (g.stack.map fun v => v.category).sum ≤ W9 → A.U.methodNamed? y = some mk → Pre A a →
    (∃ (v : Option Value) (B : Pt), Stand p l e R s m sargs below meth c B.U B.locs B.cells B.slots ∧ Post A a v B ∧
      Steps p.tables e below (doInvoke e (A.U.setTop g) [] mk a).1 (B.U.setTop { g with pc := g.pc + len, stack := v.toList ++ g.stack })) ∨
    (∃ (q : Addr) (B : Pt), Stand p l e R s m sargs below meth c B.U B.locs B.cells B.slots ∧ PostX A a q B ∧
      Steps p.tables e below (doInvoke e (A.U.setTop g) [] mk a).1 ((B.U.setTop g).pushFrame (.throwing q)))
section Payer
variable {l : Launch} {R : Room} {p : Program} {e : Env} {below : List Frame} {s : State} {sargs : Array Value} {y : MethodName} {len W9 : Nat}
theorem vx_back {ws : List Cond} {rm : Room} {Pc : Array Value → State → Prop} {Qc : Array Value → State → Outcome → State → Prop} {XC : String → State → State → Prop} {mc ms : Nat} {free : Addr → Prop} {bytes : ByteArray} {maxL : Nat} {ret : Option FieldType}
    (hM : vx_Met l y ws rm Pc Qc XC mc ms free) (hblind : FrameBlind Pc) (hrc : rm.cells = mc) (hrs : rm.slots = ms)
    (hframes : rm.frames + 1 ≤ R.frames) (hlocals : W9 + (maxL + 11) + rm.locals ≤ R.locals)
    (hws : ∀ w ∈ ws, ∀ a' U, s.WarmedH U.vm → w.before a' U = true) (hcode : Cond.code y bytes maxL ret ∈ ws) (hinit : ∀ a' U, s.WarmedH U.vm → (Cond.initialized y.cls).before a' U = true) :
    vx_Back l R p e below s sargs y len W9 (PreOf R mc ms Pc) (PostOf Qc mc ms free) (vx_Post XC mc ms free) := by
  intro m meth c A g ig mk a X hg hsize hdg hW hn hp
  have h1 : (headSpec ws rm).pre.before a A.U = true := atoms_intro fun w hw => hws w hw _ _ X.warmed
  have h2 : (Cond.code y bytes maxL ret).before a A.U = true := hws _ hcode _ _ X.warmed
  have h3 : (Cond.initialized y.cls).before a A.U = true := hinit _ _ X.warmed
  have h4 : A.cells + (headSpec ws rm).room.cells ≤ R.cells := by rw [show (headSpec ws rm).room.cells = mc from hrc]; exact hp.1
  have h5 : A.slots + (headSpec ws rm).room.slots ≤ R.slots := by rw [show (headSpec ws rm).room.slots = ms from hrs]; exact hp.2.1
  have hPc : Pc a (A.U.calling g mk a) := hblind _ _ _ _ hp.2.2
  obtain ⟨U, Ls, c0, s0⟩ := A
  dsimp only [Pt.U, Pt.locs, Pt.cells, Pt.slots] at h1 h2 h3 h4 h5 X hn hPc ⊢
  obtain ⟨methY, cY, hmY, hcY, -, hlY, -, -, -, -⟩ := Cond.code_spec hn h2
  obtain ⟨kY, hkY, -⟩ := className_of_methodNamed hn
  have hinitY : kY.init = .initialized := Cond.initialized_spec (findClass_of_methodNamed hn) hkY h3
  have h : At U g.method c below := by rw [hg]; exact X.here
  have hlocals9 : W9 + (maxL + 11) + (headSpec ws rm).room.locals ≤ R.locals := hlocals
  have happ : (headSpec ws rm).appliesLoose y e.platform (U.calling g mk a) = true :=
    Spec.appliesLoose_calling (g := g) h hdg hn hkY hinitY
      (X.room_calling (g := g) (R' := (headSpec ws rm).room) hsize hmY hcY hframes (by rw [hlY]; omega) h4 h5) h1
  obtain ⟨mid, hmid⟩ := h.above
  have hfr : (U.setTop g).frames = (.java g :: mid) ++ below := by rw [State.frames_setTop' g h.top, hmid]; rfl
  obtain ⟨o, s₂, hsteps, -, hend, hq⟩ := Steps.callFree hM p X.admits X.cas X.clock (acts := []) hfr happ hPc trivial
  have hq' : vx_Q Qc XC mc ms free a (U.calling g mk a) o s₂ := hq
  rw [State.frames_setTop' g h.top] at hend
  obtain ⟨g₀, hg0⟩ := Option.isSome_iff_exists.mp h.top
  obtain ⟨r, hr⟩ := State.topJava?_eq_some.mp hg0
  have hr' : (({ U with heap := s₂.heap, slotsUsed := s₂.slotsUsed } : State).setVm s₂.vm).frames = .java g₀ :: r := hr
  rcases hq' with ⟨hqc, L, hfe, hL⟩ | ⟨q, rfl, E, ce, L, hx, hce, hcv, hcl, hW₂, hsm, hL⟩
  · obtain ⟨⟨v, rfl⟩, hW₂, e2, q2, q3, q4, q5, q6⟩ := id hfe
    have e3 : s₂ = ({ (U.calling g mk a).setFrames s₂.frames with heap := s₂.heap, slotsUsed := s₂.slotsUsed } : State).setVm s₂.vm := by
      have : s₂ = ({ s₂ with vm := (U.calling g mk a).vm } : State).setVm s₂.vm := rfl
      rw [e2] at this
      exact this
    obtain ⟨c₂, i₂, len₂, hc₂, hd₂, hf₂⟩ := hend
    have hW' : U.WarmedH s₂.vm := hW₂
    have hcc : c₂ = c := by
      have h1 : s₂.code? g.method = U.code? g.method := by
        rw [State.code?_eq, State.code?_eq, hW'.alike.method?]
      exact Option.some.inj (hc₂.symm.trans (h1.trans h.code))
    subst hcc
    have hlen : len₂ = len := by rw [hdg] at hd₂; cases hd₂; rfl
    subst hlen
    have hs₂ : s₂ = (({ U with heap := s₂.heap, slotsUsed := s₂.slotsUsed } : State).setVm s₂.vm).setTop { g with pc := g.pc + len₂, stack := v.toList ++ g.stack } := by
      refine e3.trans ?_
      rw [hf₂, State.calling_eq h.top, State.setFrames_setFrames, State.setTop_of_frames _ hr', hr]
      rfl
    have hsame : U.sameButNew ({ U with heap := s₂.heap, slotsUsed := s₂.slotsUsed } : State) L mc ms := by
      refine ⟨?_, q2, q3, q4, q5, q6⟩
      obtain ⟨t, ht, -⟩ := State.frames_cons hr
      show ({ U with heap := s₂.heap, slotsUsed := s₂.slotsUsed } : State) = { U.setFrames U.frames with heap := s₂.heap, slotsUsed := s₂.slotsUsed }
      rw [State.setFrames_self ht]
    subst hg
    refine Or.inl ⟨v, ⟨(({ U with heap := s₂.heap, slotsUsed := s₂.slotsUsed } : State).setVm s₂.vm), Ls ++ L, c0 + mc, s0 + ms⟩,
      ⟨X.admits, X.cas, X.clock, X.frames, X.room, X.hears, X.method, X.code, (X.here.setHeapUsed s₂.heap s₂.slotsUsed).setVm hW'.alike, X.tail, State.WarmedH.trans X.warmed hW', X.limits, X.bytes, X.same.trans (hsame.setVm s.vm)⟩,
      ⟨g, mk, s₂, L, rfl, rfl, hqc, rfl, hL, rfl, rfl⟩, ?_⟩
    show Steps p.tables e below _ ((({ U with heap := s₂.heap, slotsUsed := s₂.slotsUsed } : State).setVm s₂.vm).setTop { g with pc := g.pc + len₂, stack := v.toList ++ g.stack })
    rw [← hs₂]
    exact hsteps
  · obtain ⟨e2, q2, q3, q4, q5, q6⟩ := id hsm
    have e3 : s₂ = ({ (U.calling g mk a).setFrames s₂.frames with heap := s₂.heap, slotsUsed := s₂.slotsUsed } : State).setVm s₂.vm := by
      have : s₂ = ({ s₂ with vm := (U.calling g mk a).vm } : State).setVm s₂.vm := rfl
      rw [e2] at this
      exact this
    have hf₂ : s₂.frames = .throwing q :: .java g :: U.frames.tail := hend
    have hW' : U.WarmedH s₂.vm := hW₂
    have hs₂ : s₂ = ((({ U with heap := s₂.heap, slotsUsed := s₂.slotsUsed } : State).setVm s₂.vm).setTop g).pushFrame (.throwing q) := by
      refine e3.trans ?_
      rw [hf₂, State.calling_eq h.top, State.setFrames_setFrames, State.pushFrame, State.frames_setTop _ hr', State.setTop_of_frames _ hr', State.setFrames_setFrames, hr]
      rfl
    have hsame : U.sameButNew ({ U with heap := s₂.heap, slotsUsed := s₂.slotsUsed } : State) L mc ms := by
      refine ⟨?_, q2, q3, q4, q5, q6⟩
      obtain ⟨t, ht, -⟩ := State.frames_cons hr
      show ({ U with heap := s₂.heap, slotsUsed := s₂.slotsUsed } : State) = { U.setFrames U.frames with heap := s₂.heap, slotsUsed := s₂.slotsUsed }
      rw [State.setFrames_self ht]
    subst hg
    refine Or.inr ⟨q, ⟨(({ U with heap := s₂.heap, slotsUsed := s₂.slotsUsed } : State).setVm s₂.vm), Ls ++ L, c0 + mc, s0 + ms⟩,
      ⟨X.admits, X.cas, X.clock, X.frames, X.room, X.hears, X.method, X.code, (X.here.setHeapUsed s₂.heap s₂.slotsUsed).setVm hW'.alike, X.tail, State.WarmedH.trans X.warmed hW', X.limits, X.bytes, X.same.trans (hsame.setVm s.vm)⟩,
      ⟨g, mk, s₂, L, E, ce, rfl, rfl, hx, hce, hcv, hcl, rfl, hL, rfl, rfl⟩, ?_⟩
    show Steps p.tables e below _ (((({ U with heap := s₂.heap, slotsUsed := s₂.slotsUsed } : State).setVm s₂.vm).setTop g).pushFrame (.throwing q))
    rw [← hs₂]
    exact hsteps
end Payer
section Calls
variable {p : Program} {l : Launch} {e : Env} {R : Room} {s : State} {m : MethodId} {args : Array Value} {below : List Frame} {meth : Method} {c : Code} {T : State} {locs : List Loc} {cells slots : Nat}
theorem vx_callV (X : Stand p l e R s m args below meth c T locs cells slots) (hexec : p.tables.exec = Jvm.exec) {own C : String} {index : Nat} {y : MethodName} {bytes : ByteArray} {maxL : Nat} {ret : Option FieldType}
    (hown : s.vm.findClass own = some m.cls) (hlink : (Cond.methodLink own index y).before args s = true) (hinst : (Cond.instanceMethod y).before args s = true) (hsel : (Cond.selects C y y).before args s = true)
    (hcode : (Cond.code y bytes maxL ret).before args s = true) (hy : y.cls ≠ "java/lang/invoke/MethodHandle" ∧ y.cls ≠ "java/lang/invoke/VarHandle")
    {W9 : Nat} {Pre : Pt → Array Value → Prop} {Post : Pt → Array Value → Option Value → Pt → Prop} {PostX : Pt → Array Value → Addr → Pt → Prop} (hK : vx_Back l R p e below s args y 3 W9 Pre Post PostX)
    {b : Addr} {cellB : Cell} (hcell : T.heap[b]? = some cellB) (hobj : cellB.vm.isStatics = false) (hcls : s.vm.findClass C = some cellB.cls)
    {g : JFrame} (hg : g.method = m) (hsize : g.locals.size = c.maxLocals) {argsL rest : List Value} (hlen : ∀ sig, parseMethodDescriptor y.desc = some sig → argsL.length = sig.parameters.length)
    (hstack : g.stack = argsL.reverse ++ .ref b :: rest) (hW : 2 * g.monitorRoom + (rest.map fun v => v.category).sum ≤ W9) (hdg : decode c.code g.pc = .ok (.invokevirtual index, 3))
    (hpre : ∀ vm₁, s.WarmedH vm₁ → Pre ⟨T.setVm vm₁, locs, cells, slots⟩ (Value.ref b :: argsL).toArray) :
    (∃ (v : Option Value) (vm₁ : Vm) (B : Pt), s.WarmedH vm₁ ∧ Stand p l e R s m args below meth c B.U B.locs B.cells B.slots ∧ Post ⟨T.setVm vm₁, locs, cells, slots⟩ (Value.ref b :: argsL).toArray v B ∧
      ∀ target, Steps p.tables e below (B.U.setTop { g with pc := g.pc + 3, stack := v.toList ++ rest }) target → Steps p.tables e below (T.setTop g) target) ∨
    (∃ (q : Addr) (vm₁ : Vm) (B : Pt), s.WarmedH vm₁ ∧ Stand p l e R s m args below meth c B.U B.locs B.cells B.slots ∧ PostX ⟨T.setVm vm₁, locs, cells, slots⟩ (Value.ref b :: argsL).toArray q B ∧
      Steps p.tables e below (T.setTop g) ((B.U.setTop { g with stack := rest }).pushFrame (.throwing q))) := by
  obtain ⟨mk, methM, hnamed, hmethM, hstM, habM⟩ := Cond.instanceMethod_spec hinst
  obtain ⟨methM', cM, hmethM', -, -, -, -, -, -, hsigM⟩ := Cond.code_spec hnamed hcode
  cases hmethM.symm.trans hmethM'
  obtain ⟨c2, r2, m2, q1, q2, q3, q4, kP, hkP, hkPi⟩ := Cond.selects_spec hsel
  cases hcls.symm.trans q1
  cases (State.methodFound?_of_named hnamed hy).symm.trans q2
  cases hnamed.symm.trans q3
  have hselP : selectMethod e.platform s.vm cellB.cls mk = .method mk := by rw [Launch.admits_selectMethod X.admits]; exact q4
  obtain ⟨vm₁, X₁, hstep₁⟩ := X.invokevirtual hexec hown hlink hnamed hmethM hstM hkP hkPi hy (a := b) (cell := cellB) hcell
    (fun z h => by rw [h] at hobj; cases hobj) hselP hmethM habM hkP hkPi (g := g) hg (argsL := argsL) (rest := rest) (hlen _ hsigM) hstack hdg
  rcases hK m meth c ⟨T.setVm vm₁, locs, cells, slots⟩ { g with stack := rest } (.invokevirtual index) mk (Value.ref b :: argsL).toArray X₁ hg hsize hdg hW (X₁.named hnamed) (hpre vm₁ X₁.warmed) with ⟨v, B, X', hpost, hsteps⟩ | ⟨q, B, X', hpost, hsteps⟩
  · exact Or.inl ⟨v, vm₁, B, X₁.warmed, X', hpost, fun target h => hstep₁ _ fun acts => by rw [doInvoke_state]; exact hsteps.trans h⟩
  · exact Or.inr ⟨q, vm₁, B, X₁.warmed, X', hpost, hstep₁ _ fun acts => by rw [doInvoke_state]; exact hsteps⟩
theorem vx_callS (X : Stand p l e R s m args below meth c T locs cells slots) (hexec : p.tables.exec = Jvm.exec) {own : String} {index : Nat} {y : MethodName} {bytes : ByteArray} {maxL : Nat} {ret : Option FieldType}
    (hown : s.vm.findClass own = some m.cls) (hlink : (Cond.methodLink own index y).before args s = true) (hstat : (Cond.static y).before args s = true) (hinit : (Cond.initialized y.cls).before args s = true)
    (hcode : (Cond.code y bytes maxL ret).before args s = true) (hy : y.cls ≠ "java/lang/invoke/MethodHandle" ∧ y.cls ≠ "java/lang/invoke/VarHandle")
    {W9 : Nat} {Pre : Pt → Array Value → Prop} {Post : Pt → Array Value → Option Value → Pt → Prop} {PostX : Pt → Array Value → Addr → Pt → Prop} (hK : vx_Back l R p e below s args y 3 W9 Pre Post PostX)
    {g : JFrame} (hg : g.method = m) (hsize : g.locals.size = c.maxLocals) {argsL rest : List Value} (hlen : ∀ sig, parseMethodDescriptor y.desc = some sig → argsL.length = sig.parameters.length)
    (hstack : g.stack = argsL.reverse ++ rest) (hW : 2 * g.monitorRoom + (rest.map fun v => v.category).sum ≤ W9) (hdg : decode c.code g.pc = .ok (.invokestatic index, 3))
    (hpre : ∀ vm₁, s.WarmedH vm₁ → Pre ⟨T.setVm vm₁, locs, cells, slots⟩ argsL.toArray) :
    (∃ (v : Option Value) (vm₁ : Vm) (B : Pt), s.WarmedH vm₁ ∧ Stand p l e R s m args below meth c B.U B.locs B.cells B.slots ∧ Post ⟨T.setVm vm₁, locs, cells, slots⟩ argsL.toArray v B ∧
      ∀ target, Steps p.tables e below (B.U.setTop { g with pc := g.pc + 3, stack := v.toList ++ rest }) target → Steps p.tables e below (T.setTop g) target) ∨
    (∃ (q : Addr) (vm₁ : Vm) (B : Pt), s.WarmedH vm₁ ∧ Stand p l e R s m args below meth c B.U B.locs B.cells B.slots ∧ PostX ⟨T.setVm vm₁, locs, cells, slots⟩ argsL.toArray q B ∧
      Steps p.tables e below (T.setTop g) ((B.U.setTop { g with stack := rest }).pushFrame (.throwing q))) := by
  obtain ⟨mk, hnamed⟩ := Cond.code_named hcode
  obtain ⟨methM, cM, hmethM, -, -, -, -, -, -, hsigM⟩ := Cond.code_spec hnamed hcode
  have hstatic : methM.isStatic = true := Cond.static_spec hnamed hmethM hstat
  obtain ⟨kP, hkP, -⟩ := className_of_methodNamed hnamed
  have hinitP : kP.init = .initialized := Cond.initialized_spec (findClass_of_methodNamed hnamed) hkP hinit
  obtain ⟨vm₁, X₁, hstep₁⟩ := X.invokestatic hexec hown hlink hnamed hmethM hstatic hkP hinitP hy (g := g) hg (argsL := argsL) (rest := rest) (hlen _ hsigM) hstack hdg
  rcases hK m meth c ⟨T.setVm vm₁, locs, cells, slots⟩ { g with stack := rest } (.invokestatic index) mk argsL.toArray X₁ hg hsize hdg hW (X₁.named hnamed) (hpre vm₁ X₁.warmed) with ⟨v, B, X', hpost, hsteps⟩ | ⟨q, B, X', hpost, hsteps⟩
  · exact Or.inl ⟨v, vm₁, B, X₁.warmed, X', hpost, fun target h => hstep₁ _ fun acts => by rw [doInvoke_state]; exact hsteps.trans h⟩
  · exact Or.inr ⟨q, vm₁, B, X₁.warmed, X', hpost, hstep₁ _ fun acts => by rw [doInvoke_state]; exact hsteps⟩
end Calls
theorem vx_cls {s : State} {T : State} {vm₁ : Vm} {E : String} {k : ClassId} (hW : s.WarmedH vm₁) (h : (T.setVm vm₁).vm.findClass E = some k) : s.vm.findClass E = some k := by
  have h1 : vm₁.findClass E = some k := h
  rw [hW.alike.findClass] at h1
  exact h1
/-- the method's frame g, with q thrown over it -/
def vx_W (p : Program) (l : Launch) (e : Env) (R : Room) (s : State) (m : MethodId) (args : Array Value) (below : List Frame) (meth : Method) (c : Code) (H : Heap) (locs : List Loc) (cells slots : Nat) (Q : State → Prop) (g : JFrame) (q : Addr) : Prop :=
  ∀ T : State, T.heap = H → Stand p l e R s m args below meth c T locs cells slots → ∃ t, Steps p.tables e below ((T.setTop g).pushFrame (.throwing q)) t ∧ Q t
def vx_Run (p : Program) (l : Launch) (e : Env) (R : Room) (s : State) (m : MethodId) (args : Array Value) (below : List Frame) (meth : Method) (c : Code) (H : Heap) (locs : List Loc) (cells slots mc ms : Nat) (g : JFrame) (rest : List Value) (Qa : State → Outcome → State → Prop) (XC : String → State → State → Prop) (free : Addr → Prop) : Prop :=
  ∀ T : State, T.heap = H → Stand p l e R s m args below meth c T locs cells slots →
    (∃ (v : Option Value) (st₀ t T' : State) (L : List Loc), st₀.heap = H ∧ Stand p l e R s m args below meth c T' (locs ++ L) (cells + mc) (slots + ms) ∧ (∀ q ∈ L, free q.base) ∧ T'.heap = t.heap ∧ T'.vm = t.vm ∧ Qa st₀ (.returned v) t ∧
      Goes p e below T g T' { g with pc := g.pc + 3, stack := v.toList ++ rest }) ∨
    (∃ (q : Addr) (st₀ t T' : State) (L : List Loc) (E : String) (ce : Cell), st₀.heap = H ∧ Stand p l e R s m args below meth c T' (locs ++ L) (cells + mc) (slots + ms) ∧ (∀ z ∈ L, free z.base) ∧ T'.heap = t.heap ∧ T'.vm = t.vm ∧ XC E st₀ t ∧ t.heap[q]? = some ce ∧ ce.vm = .none ∧ s.vm.findClass E = some ce.cls ∧
      Steps p.tables e below (T.setTop g) ((T'.setTop { g with stack := rest }).pushFrame (.throwing q)))
def vx_X {S : Type} (px : S → Prop) (B : String → S → State → Prop) (A : Nat → Prop) : String → State → State → Prop := fun E st t => ∃ u : S, px u ∧ B E u t ∧ va_F A st t
section Runs
variable {p : Program} {l : Launch} {e : Env} {R : Room} {s : State} {m : MethodId} {args : Array Value} {below : List Frame} {meth : Method} {c : Code} {H : Heap} {locs : List Loc} {cells slots : Nat}
variable {y : MethodName} {bytes cc : ByteArray} {maxL nL mc ms n index : Nat} {ret : Option FieldType} {ws : List Cond} {rm : Room} {Pc : Array Value → State → Prop} {Qc : Array Value → State → Outcome → State → Prop} {XC : String → State → State → Prop} {free : Addr → Prop} {Ts : List Cond} {own C : String} {b : Addr} {As rest : List Value} {g : JFrame}
theorem vx_callBack (cb : CallB R s args own index y bytes maxL ret ws rm mc ms n) (hM : vx_Met l y ws rm Pc Qc XC mc ms free) (hbl : FrameBlind Pc) : vx_Back l R p e below s args y 3 8 (PreOf R mc ms Pc) (PostOf Qc mc ms free) (vx_Post XC mc ms free) := by
  obtain ⟨hrc, hrs, hfr, hlo, hws, hcw, -, hini, -⟩ := cb
  exact vx_back (bytes := bytes) (maxL := maxL) (ret := ret) hM hbl hrc hrs hfr hlo hws hcw (fun a' U hW => word_at hW (Or.inl (by first | rfl | simp [Cond.onTables, Cond.keeps, Cond.steady])) hini)
theorem vx_runV (S : CallFix p m c cc nL s args Ts own) (hM : vx_Met l y ws rm Pc Qc XC mc ms free) (cw : CallW R s args own C index y bytes maxL ret ws rm mc ms n) (hp : PreV s H C b Pc As)
    (hg : g.method = m) (hn : As.length = n) (hsize : g.locals.size = nL) (hstack : g.stack = As.reverse ++ .ref b :: rest) (hW : 2 * g.monitorRoom + (rest.map fun v => v.category).sum ≤ 8) (hdg : decode cc g.pc = .ok (.invokevirtual index, 3)) (hf : cells + mc ≤ R.cells ∧ slots + ms ≤ R.slots) :
    vx_Run p l e R s m args below meth c H locs cells slots mc ms g rest (Qc (Value.ref b :: As).toArray) XC free := by
  have hK : vx_Back l R p e below s args y 3 8 (PreOf R mc ms Pc) (PostOf Qc mc ms free) (vx_Post XC mc ms free) := vx_callBack cw.1 hM hp.1
  obtain ⟨⟨-, -, -, -, -, -, hcode, -, hy, hlen, hl⟩, hin, hse⟩ := cw
  obtain ⟨hx, hb, hml, ho, -⟩ := S
  obtain ⟨-, ⟨cellB, hcB, hoB, hclB⟩, hPc⟩ := hp
  intro T hT X
  rcases vx_callV X hx (C := C) (bytes := bytes) (maxL := maxL) (ret := ret) ho hl hin hse hcode hy hK (by rw [hT]; exact hcB) hoB hclB hg (hsize.trans hml.symm) (argsL := As) (rest := rest) (fun sig h => hn.trans (hlen sig h)) hstack hW (by rw [hb]; exact hdg)
    (fun vm₁ hW₁ => ⟨hf.1, hf.2, hPc (T.setVm vm₁) hT hW₁⟩) with ⟨v, vm₁, ⟨U', l2, c2, s2⟩, hW₁, X', ⟨g', mk, t, L, e1, e2, hq, h1, hL, h2, h3⟩, st⟩ | ⟨q, vm₁, ⟨U', l2, c2, s2⟩, hW₁, X', ⟨g', mk, t, L, E, ce, e1, e2, hq, hce, hcv, hcl, h1, hL, h2, h3⟩, st⟩
  · dsimp only [Pt.U, Pt.locs, Pt.cells, Pt.slots] at X' e1 e2 h1 h2 h3 st
    subst h1; subst h2; subst h3
    exact Or.inl ⟨v, (T.setVm vm₁).calling g' mk (Value.ref b :: As).toArray, t, U', L, hT, X', hL, e1, e2, hq, st⟩
  · dsimp only [Pt.U, Pt.locs, Pt.cells, Pt.slots] at X' e1 e2 h1 h2 h3 st hcl
    subst h1; subst h2; subst h3
    exact Or.inr ⟨q, (T.setVm vm₁).calling g' mk (Value.ref b :: As).toArray, t, U', L, E, ce, hT, X', hL, e1, e2, hq, hce, hcv, vx_cls hW₁ hcl, st⟩
theorem vx_runS (S : CallFix p m c cc nL s args Ts own) (hM : vx_Met l y ws rm Pc Qc XC mc ms free) (cw : CallB R s args own index y bytes maxL ret ws rm mc ms n ∧ (Cond.static y).before args s = true) (hp : PreS s H Pc As)
    (hg : g.method = m) (hn : As.length = n) (hsize : g.locals.size = nL) (hstack : g.stack = As.reverse ++ rest) (hW : 2 * g.monitorRoom + (rest.map fun v => v.category).sum ≤ 8) (hdg : decode cc g.pc = .ok (.invokestatic index, 3)) (hf : cells + mc ≤ R.cells ∧ slots + ms ≤ R.slots) :
    vx_Run p l e R s m args below meth c H locs cells slots mc ms g rest (Qc As.toArray) XC free := by
  have hK : vx_Back l R p e below s args y 3 8 (PreOf R mc ms Pc) (PostOf Qc mc ms free) (vx_Post XC mc ms free) := vx_callBack cw.1 hM hp.1
  obtain ⟨⟨-, -, -, -, -, -, hcode, hini, hy, hlen, hl⟩, hstt⟩ := cw
  obtain ⟨hx, hb, hml, ho, -⟩ := S
  intro T hT X
  rcases vx_callS X hx (bytes := bytes) (maxL := maxL) (ret := ret) ho hl hstt hini hcode hy hK hg (hsize.trans hml.symm) (argsL := As) (rest := rest) (fun sig h => hn.trans (hlen sig h)) hstack hW (by rw [hb]; exact hdg)
    (fun vm₁ hW₁ => ⟨hf.1, hf.2, hp.2 (T.setVm vm₁) hT hW₁⟩) with ⟨v, vm₁, ⟨U', l2, c2, s2⟩, hW₁, X', ⟨g', mk, t, L, e1, e2, hq, h1, hL, h2, h3⟩, st⟩ | ⟨q, vm₁, ⟨U', l2, c2, s2⟩, hW₁, X', ⟨g', mk, t, L, E, ce, e1, e2, hq, hce, hcv, hcl, h1, hL, h2, h3⟩, st⟩
  · dsimp only [Pt.U, Pt.locs, Pt.cells, Pt.slots] at X' e1 e2 h1 h2 h3 st
    subst h1; subst h2; subst h3
    exact Or.inl ⟨v, (T.setVm vm₁).calling g' mk As.toArray, t, U', L, hT, X', hL, e1, e2, hq, st⟩
  · dsimp only [Pt.U, Pt.locs, Pt.cells, Pt.slots] at X' e1 e2 h1 h2 h3 st hcl
    subst h1; subst h2; subst h3
    exact Or.inr ⟨q, (T.setVm vm₁).calling g' mk As.toArray, t, U', L, E, ce, hT, X', hL, e1, e2, hq, hce, hcv, vx_cls hW₁ hcl, st⟩
end Runs
section Rows
variable {p : Program} {l : Launch} {e : Env} {R : Room} {s : State} {m : MethodId} {args : Array Value} {below : List Frame} {meth : Method} {c : Code} {H : Heap} {locs : List Loc} {cells slots : Nat} {Q : State → Prop}
variable {mc ms : Nat} {free : Addr → Prop} {A0 A1 : Nat → Prop} {H0 : Heap} {a : Array Value} {pc : Nat} {ls : Array Slot} {st0 rest : List Value}
theorem vx_keep {st₀ t T' : State} {L : List Loc} (h0 : st₀.heap = H) (e1 : T'.heap = t.heap) (hS : va_S A0 H0 H locs) (hA : ∀ q, q < H.size → A1 q → A0 q) (hf : ∀ q, free q → A0 q) (hL : ∀ q ∈ L, free q.base) (hF : va_F A1 st₀ t) :
    H.size ≤ T'.heap.size ∧ (∀ q : Nat, q < H.size → ¬ A1 q → T'.heap[q]? = H[q]?) ∧ va_S A0 H0 T'.heap (locs ++ L) := by
  obtain ⟨hz, hk⟩ := hF
  rw [h0] at hz hk
  exact ⟨by rw [e1]; exact hz, fun q h1 h2 => by rw [e1]; exact hk q h1 h2,
    ⟨Nat.le_trans hS.1 (by rw [e1]; exact hz), fun q h1 h2 => by rw [e1, hk q (Nat.lt_of_lt_of_le h1 hS.1) (fun z => h2 (hA q (Nat.lt_of_lt_of_le h1 hS.1) z))]; exact hS.2.1 q h1 h2, fun q hq => by
      rcases List.mem_append.mp hq with h | h
      · exact hS.2.2 q h
      · exact hf _ (hL q h)⟩⟩
theorem vx_calli {S SX : Type} {post : Int32 → S → Prop} {px : SX → Prop} {B : S → State → Prop} {BX : String → SX → State → Prop} {AX : Nat → Prop} (hr : vx_Run p l e R s m args below meth c H locs cells slots mc ms (F0 m pc ls st0) rest (va_Qi post B A1 a) (vx_X px BX AX) free) (hS : va_S A0 H0 H locs) (hA : ∀ q, q < H.size → A1 q → A0 q) (hf : ∀ q, free q → A0 q) (hAX : ∀ q, q < H.size → AX q → A0 q)
    (kx : ∀ (E : String) (ce : Cell) (q9 : Addr) (u : SX) (t : State) (H1 : Heap) (locs1 : List Loc), t.heap = H1 → s.vm.Alike t.vm → px u → BX E u t → H.size ≤ H1.size → (∀ q : Nat, q < H.size → ¬ AX q → H1[q]? = H[q]?) → va_S A0 H0 H1 locs1 → H1[q9]? = some ce → ce.vm = .none → s.vm.findClass E = some ce.cls → vx_W p l e R s m args below meth c H1 locs1 (cells + mc) (slots + ms) Q (F0 m pc ls rest) q9)
    (kk : ∀ (r : Int32) (u : S) (t : State) (H1 : Heap) (locs1 : List Loc), t.heap = H1 → s.vm.Alike t.vm → post r u → B u t → H.size ≤ H1.size → (∀ q : Nat, q < H.size → ¬ A1 q → H1[q]? = H[q]?) → va_S A0 H0 H1 locs1 → W p l e R s m args below meth c H1 locs1 (cells + mc) (slots + ms) Q (F0 m (pc + 3) ls (.int r :: rest))) : W p l e R s m args below meth c H locs cells slots Q (F0 m pc ls st0) := by
  intro T hT X
  rcases hr T hT X with ⟨v, st₀, t, T', L, h0, X', hL, e1, e2, ⟨⟨r, u, hv, hp, hb⟩, hF⟩, st⟩ | ⟨q, st₀, t, T', L, E, ce, h0, X', hL, e1, e2, ⟨u, hp, hb, hF⟩, hce, hcv, hcl, st⟩
  · cases hv
    obtain ⟨k1, k2, k3⟩ := vx_keep h0 e1 hS hA hf hL hF
    obtain ⟨t2, a1, b1⟩ := kk r u t T'.heap (locs ++ L) e1.symm (by rw [← e2]; exact X'.warmed.alike) hp hb k1 k2 k3 T' rfl X'
    exact ⟨t2, st t2 a1, b1⟩
  · obtain ⟨k1, k2, k3⟩ := vx_keep h0 e1 hS hAX hf hL hF
    obtain ⟨t2, a1, b1⟩ := kx E ce q u t T'.heap (locs ++ L) e1.symm (by rw [← e2]; exact X'.warmed.alike) hp hb k1 k2 k3 (by rw [e1]; exact hce) hcv hcl T' rfl X'
    exact ⟨t2, st.trans a1, b1⟩
theorem vx_calll {S SX : Type} {post : Int64 → S → Prop} {px : SX → Prop} {B : S → State → Prop} {BX : String → SX → State → Prop} {AX : Nat → Prop} (hr : vx_Run p l e R s m args below meth c H locs cells slots mc ms (F0 m pc ls st0) rest (va_Ql post B A1 a) (vx_X px BX AX) free) (hS : va_S A0 H0 H locs) (hA : ∀ q, q < H.size → A1 q → A0 q) (hf : ∀ q, free q → A0 q) (hAX : ∀ q, q < H.size → AX q → A0 q)
    (kx : ∀ (E : String) (ce : Cell) (q9 : Addr) (u : SX) (t : State) (H1 : Heap) (locs1 : List Loc), t.heap = H1 → s.vm.Alike t.vm → px u → BX E u t → H.size ≤ H1.size → (∀ q : Nat, q < H.size → ¬ AX q → H1[q]? = H[q]?) → va_S A0 H0 H1 locs1 → H1[q9]? = some ce → ce.vm = .none → s.vm.findClass E = some ce.cls → vx_W p l e R s m args below meth c H1 locs1 (cells + mc) (slots + ms) Q (F0 m pc ls rest) q9)
    (kk : ∀ (r : Int64) (u : S) (t : State) (H1 : Heap) (locs1 : List Loc), t.heap = H1 → s.vm.Alike t.vm → post r u → B u t → H.size ≤ H1.size → (∀ q : Nat, q < H.size → ¬ A1 q → H1[q]? = H[q]?) → va_S A0 H0 H1 locs1 → W p l e R s m args below meth c H1 locs1 (cells + mc) (slots + ms) Q (F0 m (pc + 3) ls (.long r :: rest))) : W p l e R s m args below meth c H locs cells slots Q (F0 m pc ls st0) := by
  intro T hT X
  rcases hr T hT X with ⟨v, st₀, t, T', L, h0, X', hL, e1, e2, ⟨⟨r, u, hv, hp, hb⟩, hF⟩, st⟩ | ⟨q, st₀, t, T', L, E, ce, h0, X', hL, e1, e2, ⟨u, hp, hb, hF⟩, hce, hcv, hcl, st⟩
  · cases hv
    obtain ⟨k1, k2, k3⟩ := vx_keep h0 e1 hS hA hf hL hF
    obtain ⟨t2, a1, b1⟩ := kk r u t T'.heap (locs ++ L) e1.symm (by rw [← e2]; exact X'.warmed.alike) hp hb k1 k2 k3 T' rfl X'
    exact ⟨t2, st t2 a1, b1⟩
  · obtain ⟨k1, k2, k3⟩ := vx_keep h0 e1 hS hAX hf hL hF
    obtain ⟨t2, a1, b1⟩ := kx E ce q u t T'.heap (locs ++ L) e1.symm (by rw [← e2]; exact X'.warmed.alike) hp hb k1 k2 k3 (by rw [e1]; exact hce) hcv hcl T' rfl X'
    exact ⟨t2, st.trans a1, b1⟩
theorem vx_callf {S SX : Type} {post : UInt32 → S → Prop} {px : SX → Prop} {B : S → State → Prop} {BX : String → SX → State → Prop} {AX : Nat → Prop} (hr : vx_Run p l e R s m args below meth c H locs cells slots mc ms (F0 m pc ls st0) rest (va_Qf post B A1 a) (vx_X px BX AX) free) (hS : va_S A0 H0 H locs) (hA : ∀ q, q < H.size → A1 q → A0 q) (hf : ∀ q, free q → A0 q) (hAX : ∀ q, q < H.size → AX q → A0 q)
    (kx : ∀ (E : String) (ce : Cell) (q9 : Addr) (u : SX) (t : State) (H1 : Heap) (locs1 : List Loc), t.heap = H1 → s.vm.Alike t.vm → px u → BX E u t → H.size ≤ H1.size → (∀ q : Nat, q < H.size → ¬ AX q → H1[q]? = H[q]?) → va_S A0 H0 H1 locs1 → H1[q9]? = some ce → ce.vm = .none → s.vm.findClass E = some ce.cls → vx_W p l e R s m args below meth c H1 locs1 (cells + mc) (slots + ms) Q (F0 m pc ls rest) q9)
    (kk : ∀ (r : UInt32) (u : S) (t : State) (H1 : Heap) (locs1 : List Loc), t.heap = H1 → s.vm.Alike t.vm → post r u → B u t → H.size ≤ H1.size → (∀ q : Nat, q < H.size → ¬ A1 q → H1[q]? = H[q]?) → va_S A0 H0 H1 locs1 → W p l e R s m args below meth c H1 locs1 (cells + mc) (slots + ms) Q (F0 m (pc + 3) ls (.float r :: rest))) : W p l e R s m args below meth c H locs cells slots Q (F0 m pc ls st0) := by
  intro T hT X
  rcases hr T hT X with ⟨v, st₀, t, T', L, h0, X', hL, e1, e2, ⟨⟨r, u, hv, hp, hb⟩, hF⟩, st⟩ | ⟨q, st₀, t, T', L, E, ce, h0, X', hL, e1, e2, ⟨u, hp, hb, hF⟩, hce, hcv, hcl, st⟩
  · cases hv
    obtain ⟨k1, k2, k3⟩ := vx_keep h0 e1 hS hA hf hL hF
    obtain ⟨t2, a1, b1⟩ := kk r u t T'.heap (locs ++ L) e1.symm (by rw [← e2]; exact X'.warmed.alike) hp hb k1 k2 k3 T' rfl X'
    exact ⟨t2, st t2 a1, b1⟩
  · obtain ⟨k1, k2, k3⟩ := vx_keep h0 e1 hS hAX hf hL hF
    obtain ⟨t2, a1, b1⟩ := kx E ce q u t T'.heap (locs ++ L) e1.symm (by rw [← e2]; exact X'.warmed.alike) hp hb k1 k2 k3 (by rw [e1]; exact hce) hcv hcl T' rfl X'
    exact ⟨t2, st.trans a1, b1⟩
theorem vx_calld {S SX : Type} {post : UInt64 → S → Prop} {px : SX → Prop} {B : S → State → Prop} {BX : String → SX → State → Prop} {AX : Nat → Prop} (hr : vx_Run p l e R s m args below meth c H locs cells slots mc ms (F0 m pc ls st0) rest (va_Qd post B A1 a) (vx_X px BX AX) free) (hS : va_S A0 H0 H locs) (hA : ∀ q, q < H.size → A1 q → A0 q) (hf : ∀ q, free q → A0 q) (hAX : ∀ q, q < H.size → AX q → A0 q)
    (kx : ∀ (E : String) (ce : Cell) (q9 : Addr) (u : SX) (t : State) (H1 : Heap) (locs1 : List Loc), t.heap = H1 → s.vm.Alike t.vm → px u → BX E u t → H.size ≤ H1.size → (∀ q : Nat, q < H.size → ¬ AX q → H1[q]? = H[q]?) → va_S A0 H0 H1 locs1 → H1[q9]? = some ce → ce.vm = .none → s.vm.findClass E = some ce.cls → vx_W p l e R s m args below meth c H1 locs1 (cells + mc) (slots + ms) Q (F0 m pc ls rest) q9)
    (kk : ∀ (r : UInt64) (u : S) (t : State) (H1 : Heap) (locs1 : List Loc), t.heap = H1 → s.vm.Alike t.vm → post r u → B u t → H.size ≤ H1.size → (∀ q : Nat, q < H.size → ¬ A1 q → H1[q]? = H[q]?) → va_S A0 H0 H1 locs1 → W p l e R s m args below meth c H1 locs1 (cells + mc) (slots + ms) Q (F0 m (pc + 3) ls (.double r :: rest))) : W p l e R s m args below meth c H locs cells slots Q (F0 m pc ls st0) := by
  intro T hT X
  rcases hr T hT X with ⟨v, st₀, t, T', L, h0, X', hL, e1, e2, ⟨⟨r, u, hv, hp, hb⟩, hF⟩, st⟩ | ⟨q, st₀, t, T', L, E, ce, h0, X', hL, e1, e2, ⟨u, hp, hb, hF⟩, hce, hcv, hcl, st⟩
  · cases hv
    obtain ⟨k1, k2, k3⟩ := vx_keep h0 e1 hS hA hf hL hF
    obtain ⟨t2, a1, b1⟩ := kk r u t T'.heap (locs ++ L) e1.symm (by rw [← e2]; exact X'.warmed.alike) hp hb k1 k2 k3 T' rfl X'
    exact ⟨t2, st t2 a1, b1⟩
  · obtain ⟨k1, k2, k3⟩ := vx_keep h0 e1 hS hAX hf hL hF
    obtain ⟨t2, a1, b1⟩ := kx E ce q u t T'.heap (locs ++ L) e1.symm (by rw [← e2]; exact X'.warmed.alike) hp hb k1 k2 k3 (by rw [e1]; exact hce) hcv hcl T' rfl X'
    exact ⟨t2, st.trans a1, b1⟩
theorem vx_callv {S SX : Type} {post : S → Prop} {px : SX → Prop} {B : S → State → Prop} {BX : String → SX → State → Prop} {AX : Nat → Prop} (hr : vx_Run p l e R s m args below meth c H locs cells slots mc ms (F0 m pc ls st0) rest (va_Qv post B A1 a) (vx_X px BX AX) free) (hS : va_S A0 H0 H locs) (hA : ∀ q, q < H.size → A1 q → A0 q) (hf : ∀ q, free q → A0 q) (hAX : ∀ q, q < H.size → AX q → A0 q)
    (kx : ∀ (E : String) (ce : Cell) (q9 : Addr) (u : SX) (t : State) (H1 : Heap) (locs1 : List Loc), t.heap = H1 → s.vm.Alike t.vm → px u → BX E u t → H.size ≤ H1.size → (∀ q : Nat, q < H.size → ¬ AX q → H1[q]? = H[q]?) → va_S A0 H0 H1 locs1 → H1[q9]? = some ce → ce.vm = .none → s.vm.findClass E = some ce.cls → vx_W p l e R s m args below meth c H1 locs1 (cells + mc) (slots + ms) Q (F0 m pc ls rest) q9)
    (kk : ∀ (u : S) (t : State) (H1 : Heap) (locs1 : List Loc), t.heap = H1 → s.vm.Alike t.vm → post u → B u t → H.size ≤ H1.size → (∀ q : Nat, q < H.size → ¬ A1 q → H1[q]? = H[q]?) → va_S A0 H0 H1 locs1 → W p l e R s m args below meth c H1 locs1 (cells + mc) (slots + ms) Q (F0 m (pc + 3) ls (rest))) : W p l e R s m args below meth c H locs cells slots Q (F0 m pc ls st0) := by
  intro T hT X
  rcases hr T hT X with ⟨v, st₀, t, T', L, h0, X', hL, e1, e2, ⟨⟨u, hv, hp, hb⟩, hF⟩, st⟩ | ⟨q, st₀, t, T', L, E, ce, h0, X', hL, e1, e2, ⟨u, hp, hb, hF⟩, hce, hcv, hcl, st⟩
  · cases hv
    obtain ⟨k1, k2, k3⟩ := vx_keep h0 e1 hS hA hf hL hF
    obtain ⟨t2, a1, b1⟩ := kk u t T'.heap (locs ++ L) e1.symm (by rw [← e2]; exact X'.warmed.alike) hp hb k1 k2 k3 T' rfl X'
    exact ⟨t2, st t2 a1, b1⟩
  · obtain ⟨k1, k2, k3⟩ := vx_keep h0 e1 hS hAX hf hL hF
    obtain ⟨t2, a1, b1⟩ := kx E ce q u t T'.heap (locs ++ L) e1.symm (by rw [← e2]; exact X'.warmed.alike) hp hb k1 k2 k3 (by rw [e1]; exact hce) hcv hcl T' rfl X'
    exact ⟨t2, st.trans a1, b1⟩
/-- caught by the row x of this method's table; the rows ahead don't take it -/
theorem vx_catch {own name : String} {E : String} {ce : Cell} {q : Addr} (hown : s.vm.findClass own = some m.cls) (pre : List ExceptionTableEntry) (x : ExceptionTableEntry) (suf : List ExceptionTableEntry) (hsplit : c.exceptionTable.toList = pre ++ x :: suf)
    (hpass : ∀ z ∈ pre, covers z pc = false ∨ (z.catchType ≠ 0 ∧ ∃ nm : String, (Cond.classLink own z.catchType nm).before args s = true ∧ va_Nc E nm s)) (hx : covers x pc = true) (h0 : x.catchType ≠ 0)
    (hlink : (Cond.classLink own x.catchType name).before args s = true) (hcast : (Cond.castable E name).before args s = true) (hcell : H[q]? = some ce) (hv : ce.vm = .none) (hcl : s.vm.findClass E = some ce.cls)
    (kk : W p l e R s m args below meth c H locs cells slots Q (F0 m x.handlerPc ls [.ref q])) : vx_W p l e R s m args below meth c H locs cells slots Q (F0 m pc ls rest) q := by
  intro T hT X
  have hpl : e.platform.magicAccessors = ({} : Platform).magicAccessors := by rw [X.admits.platform]
  obtain ⟨c3, c4, hc3, hc4, hasg⟩ := Cond.castable_spec hcast
  cases Option.some.inj (hc3.symm.trans hcl)
  obtain ⟨c5, hc5, hcl5⟩ := Cond.classLink_spec hown hlink e.platform hpl
  cases Option.some.inj (hc4.symm.trans hc5)
  obtain ⟨vm', X', st⟩ := Stand.thenCaughtThrough X q (g := F0 m pc ls rest) rfl (Steps.refl _) (by rw [hT]; exact hcell) (by rw [hv]; rfl) (by obtain ⟨k9, h9, -⟩ := Vm.findClass_spec hcl; exact ⟨k9, h9⟩) pre x suf hsplit
    (fun z hz => by
      rcases hpass z hz with h | ⟨hz0, nm, hl1, hn1⟩
      · exact Or.inl h
      · obtain ⟨c6, hc6, hcl6⟩ := Cond.classLink_spec hown hl1 e.platform hpl
        obtain ⟨a8, b8, h1, h2, h3⟩ := hn1
        cases Option.some.inj (h1.symm.trans hcl)
        cases Option.some.inj (h2.symm.trans hc6)
        exact Or.inr ⟨hz0, _, hcl6, h3⟩) hx (Or.inr ⟨h0, c4, hcl5, hasg⟩)
  obtain ⟨t, a1, b1⟩ := kk (T.setVm vm') hT X'
  exact ⟨t, st.trans a1, b1⟩
end Rows
section Ends
variable {p : Program} {l : Launch} {e : Env} {R : Room} {s : State} {m : MethodId} {args : Array Value} {below : List Frame} {meth : Method} {c : Code} {H : Heap} {locs : List Loc} {cells slots : Nat} {Q : State → Prop}
variable {mc ms : Nat} {free : Addr → Prop} {A0 A1 : Nat → Prop} {H0 : Heap} {a : Array Value} {ls : Array Slot} {st0 rest : List Value}
variable {Qc : Array Value → State → Outcome → State → Prop} {XC : String → State → State → Prop}
/-- what a body that may throw owes at its end -/
def vx_MQ (below : List Frame) (Qc : Array Value → State → Outcome → State → Prop) (XC : String → State → State → Prop) (a : Array Value) (s : State) (mc ms : Nat) (free : Addr → Prop) : State → Prop := fun t =>
  ∃ o, t.status = .running ∧ Ended t below o ∧ vx_Q Qc XC mc ms free a s o t
theorem vx_ret {g : JFrame} {mc ms : Nat} (k : W p l e R s m args below meth c H locs cells slots (MQ below Qc args s mc ms free) g) : W p l e R s m args below meth c H locs cells slots (vx_MQ below Qc XC args s mc ms free) g := by
  intro T hT X
  obtain ⟨t, a1, o, b1, b2, b3, b4⟩ := k T hT X
  exact ⟨t, a1, o, b1, b2, Or.inl ⟨b3, b4⟩⟩
/-- not caught here: it goes on to the caller -/
theorem vx_widen {g : JFrame} {q : Addr} {k n : Nat} (h1 : cells ≤ k) (h2 : slots ≤ n) (kk : vx_W p l e R s m args below meth c H locs k n Q g q) : vx_W p l e R s m args below meth c H locs cells slots Q g q := fun T hT X => kk T hT (stand_widen X h1 h2)
theorem vx_out {pc : Nat} {E : String} {ce : Cell} {q : Addr} {mc ms : Nat} (hout : ∀ x ∈ c.exceptionTable.toList, covers x pc = false) (hlocks : meth.locks = false) (hcell : H[q]? = some ce) (hv : ce.vm = .none) (hcl : s.vm.findClass E = some ce.cls)
    (hx : ∀ t : State, t.heap = H → s.vm.Alike t.vm → XC E s t) (hf : ∀ z ∈ locs, free z.base) (hc : cells ≤ mc) (hs : slots ≤ ms) :
    vx_W p l e R s m args below meth c H locs cells slots (vx_MQ below Qc XC args s mc ms free) (F0 m pc ls rest) q := by
  intro T hT X
  obtain ⟨st1, hrun, hend, hW, hsm⟩ := X.leaveThrown q (g := F0 m pc ls rest) rfl rfl rfl hout hlocks
  have hcell9 : (T.setFrames (.throwing q :: below)).heap[q]? = some ce := by
    show T.heap[q]? = some ce
    rw [hT]; exact hcell
  exact ⟨_, st1, .threw q, hrun, hend, Or.inr ⟨q, rfl, E, ce, locs, hx _ hT hW.alike, hcell9, hv, hcl, hW, hsm.mono hc hs, hf⟩⟩
theorem vx_frame {U : State} {k n : Nat} (h : s.sameButNew ({ U with vm := s.vm } : State) locs k n) : s.heap.size ≤ U.heap.size ∧ ∀ q : Nat, q < s.heap.size → (∀ z ∈ locs, z.base ≠ q) → U.heap[q]? = s.heap[q]? := by
  obtain ⟨-, h2, -, -, -, h6⟩ := h
  refine ⟨h2, fun q hq hz => ?_⟩
  obtain ⟨c9, e1, e2, e3, e4⟩ := h6 q _ (Array.getElem?_eq_getElem hq)
  have hs : c9.slots = (s.heap[q]).slots := Array.ext_getElem? fun i => e4 i fun hm => hz _ hm rfl
  have h9 : c9 = s.heap[q] := by
    rw [hs] at e2
    exact e2
  have e5 : U.heap[q]? = some c9 := e1
  rw [e5, h9, Array.getElem?_eq_getElem hq]
/-- the words of a throw but the four that speak of the heap -/
def vx_no (w : Cond) : Bool := decide (w ≠ .isRef (.static Bundle.tN "UNASSIGNED_STACK" Bundle.steD)) && decide (w ≠ .isRef (.static Bundle.tN "SUPPRESSED_SENTINEL" Bundle.listD)) && decide (w ≠ .laysStatic Bundle.tN "UNASSIGNED_STACK" Bundle.steD) && decide (w ≠ .laysStatic Bundle.tN "SUPPRESSED_SENTINEL" Bundle.listD)
def vx_at0 (own : String) (ic : Nat) (X : String) (names : List String) : List Cond := (Bundle.ownAtoms0 own ic X names).filter vx_no
def vx_atS (own : String) (ic : Nat) (X : String) (names : List String) : List Cond := (Bundle.ownAtoms own ic X names).filter vx_no
/-- a word that the tables alone decide, or a good one -/
def vx_ot (w : Cond) : Bool := w.onTables || goodWord w
theorem vx_ot_at {args a' : Array Value} {s U : State} {w : Cond} (hW : s.WarmedH U.vm) (hvm : s.vm = U.vm) (hg : vx_ot w = true) (h : w.before args s = true) : w.before a' U = true := by
  simp only [vx_ot, Bool.or_eq_true] at hg
  rcases hg with hg | hg
  · exact va_tabs hg hvm h
  · exact word_at hW (good_of_word hg) h
/-- a list's words: the good ones out of the method's own list, the others by premises of their own -/
theorem vx_hat {args : Array Value} {s : State} {L B : List Cond} (h1 : ∀ w ∈ L.filter goodWord, w.before args s = true) (h2 : ∀ w ∈ L.filter (fun w => !goodWord w), w ∈ B) (h3 : ∀ w ∈ B, w.before args s = true) : ∀ w ∈ L, w.before args s = true := by
  intro w hw
  by_cases g : goodWord w = true
  · exact h1 w (List.mem_filter.mpr ⟨hw, g⟩)
  · refine h3 w (h2 w (List.mem_filter.mpr ⟨hw, ?_⟩))
    show (!goodWord w) = true
    cases hgw : goodWord w
    · rfl
    · exact absurd hgw g
theorem vx_c {args : Array Value} {s : State} {w : Cond} {B : List Cond} (h : w.before args s = true) (t : ∀ w ∈ B, w.before args s = true) : ∀ w' ∈ w :: B, w'.before args s = true := fun w' h' => (List.mem_cons.mp h').elim (fun e => by rw [e]; exact h) (t w')
theorem vx_n {args : Array Value} {s : State} : ∀ w ∈ ([] : List Cond), w.before args s = true := fun _ h => nomatch h
theorem vx_own {args : Array Value} {s : State} {L : List Cond} (h1 : ∀ w ∈ L.filter vx_no, w.before args s = true)
    (hU : (Cond.isRef (.static Bundle.tN "UNASSIGNED_STACK" Bundle.steD)).before args s = true) (hN : (Cond.isRef (.static Bundle.tN "SUPPRESSED_SENTINEL" Bundle.listD)).before args s = true)
    (lU : (Cond.laysStatic Bundle.tN "UNASSIGNED_STACK" Bundle.steD).before args s = true) (lN : (Cond.laysStatic Bundle.tN "SUPPRESSED_SENTINEL" Bundle.listD).before args s = true) : ∀ w ∈ L, w.before args s = true := by
  intro w hw
  by_cases e1 : w = .isRef (.static Bundle.tN "UNASSIGNED_STACK" Bundle.steD)
  · rw [e1]; exact hU
  · by_cases e2 : w = .isRef (.static Bundle.tN "SUPPRESSED_SENTINEL" Bundle.listD)
    · rw [e2]; exact hN
    · by_cases e3 : w = .laysStatic Bundle.tN "UNASSIGNED_STACK" Bundle.steD
      · rw [e3]; exact lU
      · by_cases e4 : w = .laysStatic Bundle.tN "SUPPRESSED_SENTINEL" Bundle.listD
        · rw [e4]; exact lN
        · exact h1 w (List.mem_filter.mpr ⟨hw, by unfold vx_no; rw [decide_eq_true e1, decide_eq_true e2, decide_eq_true e3, decide_eq_true e4]; rfl⟩)
/-- where a static field lies, its class's statics cell in H -/
def vx_L (C n d : String) (A : Nat → Prop) (U : State) (H : Heap) : Prop := ∃ (c : ClassId) (k : Class) (i : Nat) (f : Field) (a : Nat) (cell : Cell), U.vm.findClass C = some c ∧ U.fieldFound? C n d = some (c, k, i, f) ∧ f.isStatic = true ∧ k.statics = some a ∧ H[a]? = some cell ∧ cell.vm.isStatics = true ∧ cell.cls = c ∧ f.slot < cell.slots.size ∧ k.staticTypes[f.slot]? = some f.type ∧ ¬ A a
theorem vx_L.moved {C n d : String} {A : Nat → Prop} {u U : State} {H : Heap} (hvm : u.vm.Alike U.vm) (h : vx_L C n d A u H) : vx_L C n d A U H := by
  obtain ⟨c, k, i, f, a, cell, h1, h2, h3, h4, h5, h6, h7, h8, h9, h10⟩ := h
  obtain ⟨k', hi', he⟩ := State.fieldFound?_setVm hvm h2
  exact ⟨c, k', i, f, a, cell, by rw [hvm.findClass]; exact h1, hi', h3, by rw [he]; exact h4, h5, h6, h7, h8, by rw [he]; exact h9, h10⟩
theorem vx_L.kept {C n d : String} {A : Nat → Prop} {U : State} {H H1 : Heap} (h : vx_L C n d A U H) (hq : ∀ a : Nat, a < H.size → ¬ A a → H1[a]? = H[a]?) : vx_L C n d A U H1 := by
  obtain ⟨c, k, i, f, a, cell, h1, h2, h3, h4, h5, h6, h7, h8, h9, h10⟩ := h
  exact ⟨c, k, i, f, a, cell, h1, h2, h3, h4, by rw [hq a (Array.getElem?_eq_some_iff.mp h5).1 h10]; exact h5, h6, h7, h8, h9, h10⟩
theorem vx_L.narrow {C n d : String} {A B : Nat → Prop} {U : State} {H : Heap} (h : vx_L C n d A U H) (hAB : ∀ q, B q → A q) : vx_L C n d B U H := by
  obtain ⟨c, k, i, f, a, cell, h1, h2, h3, h4, h5, h6, h7, h8, h9, h10⟩ := h
  exact ⟨c, k, i, f, a, cell, h1, h2, h3, h4, h5, h6, h7, h8, h9, fun z => h10 (hAB _ z)⟩
theorem vx_L.word {C n d : String} {A : Nat → Prop} {s : State} {args : Array Value} (h : vx_L C n d A s s.heap) : (Cond.laysStatic C n d).before args s = true := by
  obtain ⟨c, k, i, f, a, cell, h1, h2, h3, h4, h5, h6, h7, h8, h9, -⟩ := h
  show (Cond.laysStatic C n d).holds args s none s [] = true
  exact Cond.laysStatic_of h1 h2 h3 h4 h5 h6 h7 h8 h9
/-- .. and what it holds: null or some reference -/
def vx_Zq (C n d : String) (A : Nat → Prop) (U : State) (H : Heap) : Prop := va_Zq C n d A U H ∧ vx_L C n d A U H
theorem vx_Zq.moved {C n d : String} {A : Nat → Prop} {u U : State} {H : Heap} (hvm : u.vm.Alike U.vm) (h : vx_Zq C n d A u H) : vx_Zq C n d A U H := ⟨va_Zq.moved hvm h.1, vx_L.moved hvm h.2⟩
theorem vx_Zq.kept {C n d : String} {A : Nat → Prop} {U : State} {H H1 : Heap} (h : vx_Zq C n d A U H) (hq : ∀ a : Nat, a < H.size → ¬ A a → H1[a]? = H[a]?) : vx_Zq C n d A U H1 := ⟨va_Zq.kept h.1 hq, vx_L.kept h.2 hq⟩
theorem vx_Zq.narrow {C n d : String} {A B : Nat → Prop} {U : State} {H : Heap} (h : vx_Zq C n d A U H) (hAB : ∀ q, B q → A q) : vx_Zq C n d B U H := ⟨va_Zq.narrow h.1 hAB, vx_L.narrow h.2 hAB⟩
theorem vx_Zqof {args : Array Value} {s : State} {C n d : String} {A : Nat → Prop} (hl : (Cond.laysStatic C n d).before args s = true) (hini : (Cond.initialized C).before args s = true) (h : (Cond.isRef (.static C n d)).before args s = true) (hA : ∀ a : Nat, a < s.heap.size → ¬ A a) : vx_Zq C n d A s s.heap := by
  refine ⟨va_Zqof hl hini h hA, ?_⟩
  obtain ⟨c, k, i, f, a, cell, h1, h2, h3, h4, h5, h6, h7, h8, h9⟩ := Cond.laysStatic_spec hl
  exact ⟨c, k, i, f, a, cell, h1, h2, h3, h4, h5, h6, h7, h8, h9, hA a (Array.getElem?_eq_some_iff.mp h5).1⟩
theorem vx_isRef {C n d : String} {v : Value} {A : Nat → Prop} {s : State} {args : Array Value} (h : va_Z C n d v A s s.heap) (hv : v.isRef = true) : (Cond.isRef (.static C n d)).before args s = true := by
  obtain ⟨cf, kf, fi, f, a, cell, h1, h2, h3, h4, h5, h6, h7, -⟩ := h
  have he : (Term.static C n d).eval args s none [] s = some v := by
    simp [Term.eval, State.fieldNamed?, h1, h2, h4, h5, h6, h7]
  simp only [Cond.before, Cond.holds, Cond.value, he]
  cases v <;> simp_all [Value.isRef]
theorem vx_isRefq {C n d : String} {A : Nat → Prop} {s : State} {args : Array Value} (h : va_Zq C n d A s s.heap) : (Cond.isRef (.static C n d)).before args s = true := by
  rcases h with h | ⟨t, h⟩
  · exact vx_isRef h rfl
  · exact vx_isRef h rfl
/-- the same frame, seen from here: as if the method were called anew in this heap -/
theorem vx_rebase {T : State} (X : Stand p l e R s m args below meth c T locs cells slots) {R' : Room} (hf : R'.frames ≤ R.frames) (hl : R'.locals ≤ R.locals) (hc : cells + R'.cells ≤ R.cells) (hs : slots + R'.slots ≤ R.slots) :
    Stand p l e R' ((T.setVm s.vm).setFrames (.invoking m args :: below)) m args below meth c T [] 0 0 := by
  have htop : (T.setVm s.vm).topJava?.isSome := X.here.top
  have hF : ((T.setVm s.vm).setFrames (.invoking m args :: below)).frames = .invoking m args :: below := State.frames_setFrames _ (State.cur_lt_of_top htop)
  obtain ⟨g₀, hg0⟩ := Option.isSome_iff_exists.mp htop
  obtain ⟨r, hr⟩ := State.topJava?_eq_some.mp hg0
  have hl9 : e.platform.stackLimits (T.setVm s.vm).me = e.platform.stackLimits s.me := X.limits
  have hb9 : (T.setVm s.vm).me.stackBytes = s.me.stackBytes := X.bytes
  refine ⟨X.admits, X.cas, X.clock, hF, ?_, X.hears, X.method, X.code, X.here, X.tail, X.warmed, ?_, ?_, ?_⟩
  · have h := X.room
    have hU : ((T.setVm s.vm).setFrames (.invoking m args :: below)).localsInUse = s.localsInUse := by
      rw [State.localsInUse_invoking hF (meth := meth) (c := c) X.method X.code, State.localsInUse_invoking X.frames X.method X.code]
    simp only [State.hasRoom, Bool.and_eq_true, decide_eq_true_eq] at h ⊢
    obtain ⟨⟨⟨⟨h1, h2, h3, h4, h5, h6⟩, h7⟩, h8⟩, h9⟩ := h
    rw [X.frames, List.length_cons] at h2 h3
    have q1 := X.heapSize
    have q2 := X.used
    simp only [hF, hU, List.length_cons, State.stackLimits_setFrames, State.stackBytes_setFrames, hl9, hb9]
    refine ⟨⟨⟨⟨by omega, by omega, by omega, by omega, by omega, h6⟩, ?_⟩, ?_⟩, X.book⟩
    · show T.heap.size + R'.cells ≤ e.platform.maxCells
      omega
    · show T.slotsUsed + R'.slots ≤ e.platform.maxSlots
      omega
  · rw [State.stackLimits_setFrames]; rfl
  · rw [State.stackBytes_setFrames]; rfl
  · refine ⟨?_, Nat.le_refl _, Nat.le_refl _, ?_, ?_, fun a c9 h9 => ⟨c9, h9, rfl, rfl, fun _ _ => rfl⟩⟩
    · obtain ⟨t, ht, -⟩ := State.frames_cons hr
      show T.setVm s.vm = { ((T.setVm s.vm).setFrames (.invoking m args :: below)).setFrames (T.setVm s.vm).frames with heap := T.heap, slotsUsed := T.slotsUsed }
      rw [State.setFrames_setFrames, State.setFrames_self ht]
      rfl
    · show T.slotsUsed = T.slotsUsed + ((T.heap.toList.drop T.heap.size).map (·.slots.size)).sum
      rw [List.drop_eq_nil_of_le (Nat.le_of_eq Array.length_toList)]
      rfl
    · show ((T.heap.toList.drop T.heap.size).map (·.slots.size)).sum ≤ 0
      rw [List.drop_eq_nil_of_le (Nat.le_of_eq Array.length_toList)]
      exact Nat.le_refl _
/-- 'throw new E()': new; dup; invokespecial; athrow -/
theorem vx_throw0 {cc : ByteArray} {pc : Nat} (hexec : p.tables.exec = Jvm.exec) (hb : c.code = cc) (hl : l.stackTraces = false) {own cls : String} {names : List String} {ik ic mc ms : Nat} {A : Nat → Prop}
    (hown : s.vm.findClass own = some m.cls) (hcls : Bundle.fit cls = true) (hnames : ∀ n ∈ names, Bundle.fit n = true)
    (hk : (Cond.classLink own ik cls).before args s = true) (hini : (Cond.initialized cls).before args s = true) (hat : ∀ w ∈ vx_at0 own ic cls names, w.before args s = true)
    (hgood : ∀ w ∈ Cond.classLink own ik cls :: Cond.initialized cls :: vx_at0 own ic cls names, vx_ot w = true)
    (hU : vx_Zq Bundle.tN "UNASSIGNED_STACK" Bundle.steD A s s.heap) (hN : vx_Zq Bundle.tN "SUPPRESSED_SENTINEL" Bundle.listD A s s.heap) (hS : va_S A s.heap H locs) (hsize : ls.size = c.maxLocals)
    (d0 : decode cc pc = .ok (.new ik, 3)) (d3 : decode cc (pc + 3) = .ok (.dup, 1)) (d4 : decode cc (pc + 4) = .ok (.invokespecial ic, 3)) (d7 : decode cc (pc + 7) = .ok (.athrow, 1))
    (hout : ∀ x ∈ c.exceptionTable.toList, covers x (pc + 7) = false)
    (hRframes : names.length + 3 < R.frames) (hRlocals : (rest.map fun v => v.category).sum + (13 * (names.length + 1) + 42) ≤ R.locals) (hRcells : cells + 1 ≤ R.cells) (hRslots : slots + 6 ≤ R.slots) (hlocks : meth.locks = false)
    (hx : ∀ t : State, s.vm.Alike t.vm → H.size ≤ t.heap.size → (∀ q : Nat, q < H.size → t.heap[q]? = H[q]?) → XC cls s t)
    (hf : ∀ z ∈ locs, free z.base) (hc : cells + 1 ≤ mc) (hs : slots + 6 ≤ ms) :
    W p l e R s m args below meth c H locs cells slots (vx_MQ below Qc XC args s mc ms free) (F0 m pc ls rest) := by
  intro T hT X
  have htr : e.platform.stackTraces = false := (show e.platform.stackTraces = l.stackTraces by rw [X.admits.platform]).trans hl
  have Y := vx_rebase X (R' := { frames := R.frames, locals := R.locals, cells := 1, slots := 6 }) (Nat.le_refl _) (Nat.le_refl _) hRcells hRslots
  obtain ⟨s', hA⟩ : ∃ z, z = (T.setVm s.vm).setFrames (.invoking m args :: below) := ⟨_, rfl⟩
  rw [← hA] at Y
  have hvm : s'.vm = s.vm := by rw [hA]; rfl
  have hhp : s'.heap = H := by rw [hA]; exact hT
  have hW0 : s.WarmedH s'.vm := by rw [hvm]; exact State.WarmedH.refl s
  have hat' : ∀ w ∈ vx_at0 own ic cls names, w.before args s' = true := fun w hw => vx_ot_at hW0 hvm.symm (hgood w (List.mem_cons_of_mem _ (List.mem_cons_of_mem _ hw))) (hat w hw)
  have hk' : (Cond.classLink own ik cls).before args s' = true := vx_ot_at hW0 hvm.symm (hgood _ List.mem_cons_self) hk
  have hini' : (Cond.initialized cls).before args s' = true := vx_ot_at hW0 hvm.symm (hgood _ (List.mem_cons_of_mem _ List.mem_cons_self)) hini
  have hU' : vx_Zq Bundle.tN "UNASSIGNED_STACK" Bundle.steD A s' s'.heap := by rw [hhp]; exact vx_Zq.moved hW0.alike (hU.kept hS.2.1)
  have hN' : vx_Zq Bundle.tN "SUPPRESSED_SENTINEL" Bundle.listD A s' s'.heap := by rw [hhp]; exact vx_Zq.moved hW0.alike (hN.kept hS.2.1)
  have h : ∀ w ∈ Bundle.ownAtoms0 own ic cls names, w.before args s' = true := vx_own hat' (vx_isRefq hU'.1) (vx_isRefq hN'.1) hU'.2.word hN'.2.word
  have hown' : s'.vm.findClass own = some m.cls := by rw [hvm]; exact hown
  have hins : (Cond.instantiable cls 6).before args s' = true := h _ (by simp [Bundle.ownAtoms0])
  obtain ⟨vm₁, cX, kX, hfX, hkX, -, -, X₁, st1⟩ := Y.newCold hexec (own := own) (C := cls) (index := ik) (n := 6) hown' hk' hins hini'
    (g := F0 m pc ls rest) rfl (by rw [hb]; exact d0) (Nat.le_refl _) (Nat.le_refl _)
  generalize hT1 : (T.setVm vm₁).pushCell { cls := cX, slots := kX.instanceTypes.map defaultValue, vm := .none } = T1 at X₁ st1
  have hcat : (Value.ref T.heap.size).category = 1 := rfl
  have hcellA : T1.heap[T.heap.size]? = some (freshCell cX kX) := by rw [← hT1]; exact State.heap_pushCell_size _ _
  have d3' : decode c.code (pc + 3) = .ok (.dup, 1) := by rw [hb]; exact d3
  obtain ⟨U, hsteps, hrun, hend, hW, hsame, ce, hce, hO⟩ := X₁.ctorThrow0 hexec htr (own := own) (cls := cls) (names := names) (ic := ic) hown' hcls hnames h (fun x hx => nomatch hx) hfX hkX hcellA (by rw [hhp, hT]; exact Nat.le_refl _)
    (g := { method := m, pc := pc + 4, locals := ls, stack := .ref T.heap.size :: .ref T.heap.size :: rest, locked := none }) rfl hsize rfl rfl (rest := rest) rfl
    (by rw [hb]; exact d4) (by rw [hb]; exact d7) hout hRframes (by simp only [List.map_cons, List.sum_cons, hcat]; omega) hlocks
  obtain ⟨f1, f2⟩ := vx_frame hsame
  rw [hhp] at f1 f2
  have hWs : s.WarmedH U.vm := State.WarmedH.trans hW0 hW
  have hcl : s.vm.findClass cls = some ce.cls := by
    have h9 := hO.cls
    rw [hvm] at h9
    exact h9
  have hall : s.sameButNew ({ U with vm := s.vm } : State) locs mc ms := by
    subst hA
    obtain ⟨e1, e2⟩ := hsame
    rw [State.setFrames_setFrames] at e1
    have h2 : (T.setVm s.vm).sameButNew ({ U with vm := s.vm } : State) [] (0 + 1) (0 + 6) := ⟨e1, e2⟩
    have h3 := X.same.trans h2
    rw [List.append_nil] at h3
    exact h3.mono hc hs
  refine ⟨U, ?_, .threw T.heap.size, hrun, hend, Or.inr ⟨T.heap.size, rfl, cls, ce, locs, hx U hWs.alike f1 (fun q hq => f2 q hq (fun z hz => nomatch hz)), hce, hO.vm, hcl, hWs, hall, hf⟩⟩
  refine st1 _ ?_
  show Steps p.tables e below (T1.setTop { method := m, pc := pc + 3, locals := ls, stack := .ref T.heap.size :: rest, locked := none }) _
  jvm_step X₁.here [X₁.here.top, hexec, d3', Value.category]
  exact hsteps
/-- 'throw new E("text")': new; dup; ldc; invokespecial; athrow -/
theorem vx_throwS {cc : ByteArray} {pc : Nat} (hexec : p.tables.exec = Jvm.exec) (hb : c.code = cc) (hl : l.stackTraces = false) {own cls text : String} {names : List String} {ik is ic mc ms sa : Nat} {A : Nat → Prop}
    (hown : s.vm.findClass own = some m.cls) (hcls : Bundle.fit cls = true) (hnames : ∀ n ∈ names, Bundle.fit n = true)
    (hk : (Cond.classLink own ik cls).before args s = true) (hini : (Cond.initialized cls).before args s = true) (hstr : vk_R own is text sa s) (hat : ∀ w ∈ vx_atS own ic cls names, w.before args s = true)
    (hgood : ∀ w ∈ Cond.classLink own ik cls :: Cond.initialized cls :: vx_atS own ic cls names, vx_ot w = true)
    (hU : vx_Zq Bundle.tN "UNASSIGNED_STACK" Bundle.steD A s s.heap) (hN : vx_Zq Bundle.tN "SUPPRESSED_SENTINEL" Bundle.listD A s s.heap) (hS : va_S A s.heap H locs) (hsize : ls.size = c.maxLocals)
    (d0 : decode cc pc = .ok (.new ik, 3)) (d3 : decode cc (pc + 3) = .ok (.dup, 1)) (d4 : decode cc (pc + 4) = .ok (.ldc is, 2)) (d6 : decode cc (pc + 6) = .ok (.invokespecial ic, 3)) (d9 : decode cc (pc + 9) = .ok (.athrow, 1))
    (hout : ∀ x ∈ c.exceptionTable.toList, covers x (pc + 9) = false)
    (hRframes : names.length + 3 < R.frames) (hRlocals : (rest.map fun v => v.category).sum + (13 * (names.length + 1) + 43) ≤ R.locals) (hRcells : cells + 1 ≤ R.cells) (hRslots : slots + 6 ≤ R.slots) (hlocks : meth.locks = false)
    (hx : ∀ t : State, s.vm.Alike t.vm → H.size ≤ t.heap.size → (∀ q : Nat, q < H.size → t.heap[q]? = H[q]?) → XC cls s t)
    (hf : ∀ z ∈ locs, free z.base) (hc : cells + 1 ≤ mc) (hs : slots + 6 ≤ ms) :
    W p l e R s m args below meth c H locs cells slots (vx_MQ below Qc XC args s mc ms free) (F0 m pc ls rest) := by
  intro T hT X
  have htr : e.platform.stackTraces = false := (show e.platform.stackTraces = l.stackTraces by rw [X.admits.platform]).trans hl
  have Y := vx_rebase X (R' := { frames := R.frames, locals := R.locals, cells := 1, slots := 6 }) (Nat.le_refl _) (Nat.le_refl _) hRcells hRslots
  obtain ⟨s', hA⟩ : ∃ z, z = (T.setVm s.vm).setFrames (.invoking m args :: below) := ⟨_, rfl⟩
  rw [← hA] at Y
  have hvm : s'.vm = s.vm := by rw [hA]; rfl
  have hhp : s'.heap = H := by rw [hA]; exact hT
  have hW0 : s.WarmedH s'.vm := by rw [hvm]; exact State.WarmedH.refl s
  have hat' : ∀ w ∈ vx_atS own ic cls names, w.before args s' = true := fun w hw => vx_ot_at hW0 hvm.symm (hgood w (List.mem_cons_of_mem _ (List.mem_cons_of_mem _ hw))) (hat w hw)
  have hk' : (Cond.classLink own ik cls).before args s' = true := vx_ot_at hW0 hvm.symm (hgood _ List.mem_cons_self) hk
  have hini' : (Cond.initialized cls).before args s' = true := vx_ot_at hW0 hvm.symm (hgood _ (List.mem_cons_of_mem _ List.mem_cons_self)) hini
  have hU' : vx_Zq Bundle.tN "UNASSIGNED_STACK" Bundle.steD A s' s'.heap := by rw [hhp]; exact vx_Zq.moved hW0.alike (hU.kept hS.2.1)
  have hN' : vx_Zq Bundle.tN "SUPPRESSED_SENTINEL" Bundle.listD A s' s'.heap := by rw [hhp]; exact vx_Zq.moved hW0.alike (hN.kept hS.2.1)
  have h : ∀ w ∈ Bundle.ownAtoms own ic cls names, w.before args s' = true := vx_own hat' (vx_isRefq hU'.1) (vx_isRefq hN'.1) hU'.2.word hN'.2.word
  have hown' : s'.vm.findClass own = some m.cls := by rw [hvm]; exact hown
  have hins : (Cond.instantiable cls 6).before args s' = true := h _ (by simp [Bundle.ownAtoms])
  obtain ⟨vm₁, cX, kX, hfX, hkX, -, -, X₁, st1⟩ := Y.newCold hexec (own := own) (C := cls) (index := ik) (n := 6) hown' hk' hins hini'
    (g := F0 m pc ls rest) rfl (by rw [hb]; exact d0) (Nat.le_refl _) (Nat.le_refl _)
  generalize hT1 : (T.setVm vm₁).pushCell { cls := cX, slots := kX.instanceTypes.map defaultValue, vm := .none } = T1 at X₁ st1
  have hcat : (Value.ref T.heap.size).category = 1 := rfl
  have hcellA : T1.heap[T.heap.size]? = some (freshCell cX kX) := by rw [← hT1]; exact State.heap_pushCell_size _ _
  have d3' : decode c.code (pc + 3) = .ok (.dup, 1) := by rw [hb]; exact d3
  have d4' : decode c.code (pc + 4) = .ok (.ldc is, 2) := by rw [hb]; exact d4
  have hstr' : vk_R own is text sa s' := vk_R.warm hW0 hstr
  obtain ⟨U, hsteps, hrun, hend, hW, hsame, ce, hce, hO⟩ := X₁.ctorThrowS hexec htr (own := own) (cls := cls) (names := names) (ic := ic) hown' hcls hnames h (fun x hx => nomatch hx) hfX hkX hcellA (by rw [hhp, hT]; exact Nat.le_refl _) (msg := .ref sa) rfl
    (g := { method := m, pc := pc + 6, locals := ls, stack := .ref sa :: .ref T.heap.size :: .ref T.heap.size :: rest, locked := none }) rfl hsize rfl rfl (rest := rest) rfl
    (by rw [hb]; exact d6) (by rw [hb]; exact d9) hout hRframes (by simp only [List.map_cons, List.sum_cons, hcat]; omega) hlocks
  obtain ⟨f1, f2⟩ := vx_frame hsame
  rw [hhp] at f1 f2
  have hWs : s.WarmedH U.vm := State.WarmedH.trans hW0 hW
  have hcl : s.vm.findClass cls = some ce.cls := by
    have h9 := hO.cls
    rw [hvm] at h9
    exact h9
  have hall : s.sameButNew ({ U with vm := s.vm } : State) locs mc ms := by
    subst hA
    obtain ⟨e1, e2⟩ := hsame
    rw [State.setFrames_setFrames] at e1
    have h2 : (T.setVm s.vm).sameButNew ({ U with vm := s.vm } : State) [] (0 + 1) (0 + 6) := ⟨e1, e2⟩
    have h3 := X.same.trans h2
    rw [List.append_nil] at h3
    exact h3.mono hc hs
  refine ⟨U, ?_, .threw T.heap.size, hrun, hend, Or.inr ⟨T.heap.size, rfl, cls, ce, locs, hx U hWs.alike f1 (fun q hq => f2 q hq (fun z hz => nomatch hz)), hce, hO.vm, hcl, hWs, hall, hf⟩⟩
  refine st1 _ ?_
  show Steps p.tables e below (T1.setTop { method := m, pc := pc + 3, locals := ls, stack := .ref T.heap.size :: rest, locked := none }) _
  jvm_step X₁.here [X₁.here.top, hexec, d3', Value.category]
  exact X₁.ldcString hexec (own := own) (text := text) (index := is) (a := sa) hown' hstr'.1 hstr'.2
    (g := { method := m, pc := pc + 4, locals := ls, stack := .ref T.heap.size :: .ref T.heap.size :: rest, locked := none }) rfl d4' _ hsteps
/-- 'throw new E("text")', the text by a wide index -/
theorem vx_throwSW {cc : ByteArray} {pc : Nat} (hexec : p.tables.exec = Jvm.exec) (hb : c.code = cc) (hl : l.stackTraces = false) {own cls text : String} {names : List String} {ik is ic mc ms sa : Nat} {A : Nat → Prop}
    (hown : s.vm.findClass own = some m.cls) (hcls : Bundle.fit cls = true) (hnames : ∀ n ∈ names, Bundle.fit n = true)
    (hk : (Cond.classLink own ik cls).before args s = true) (hini : (Cond.initialized cls).before args s = true) (hstr : vk_R own is text sa s) (hat : ∀ w ∈ vx_atS own ic cls names, w.before args s = true)
    (hgood : ∀ w ∈ Cond.classLink own ik cls :: Cond.initialized cls :: vx_atS own ic cls names, vx_ot w = true)
    (hU : vx_Zq Bundle.tN "UNASSIGNED_STACK" Bundle.steD A s s.heap) (hN : vx_Zq Bundle.tN "SUPPRESSED_SENTINEL" Bundle.listD A s s.heap) (hS : va_S A s.heap H locs) (hsize : ls.size = c.maxLocals)
    (d0 : decode cc pc = .ok (.new ik, 3)) (d3 : decode cc (pc + 3) = .ok (.dup, 1)) (d4 : decode cc (pc + 4) = .ok (.ldc_w is, 3)) (d7 : decode cc (pc + 7) = .ok (.invokespecial ic, 3)) (d10 : decode cc (pc + 10) = .ok (.athrow, 1))
    (hout : ∀ x ∈ c.exceptionTable.toList, covers x (pc + 10) = false)
    (hRframes : names.length + 3 < R.frames) (hRlocals : (rest.map fun v => v.category).sum + (13 * (names.length + 1) + 43) ≤ R.locals) (hRcells : cells + 1 ≤ R.cells) (hRslots : slots + 6 ≤ R.slots) (hlocks : meth.locks = false)
    (hx : ∀ t : State, s.vm.Alike t.vm → H.size ≤ t.heap.size → (∀ q : Nat, q < H.size → t.heap[q]? = H[q]?) → XC cls s t)
    (hf : ∀ z ∈ locs, free z.base) (hc : cells + 1 ≤ mc) (hs : slots + 6 ≤ ms) :
    W p l e R s m args below meth c H locs cells slots (vx_MQ below Qc XC args s mc ms free) (F0 m pc ls rest) := by
  intro T hT X
  have htr : e.platform.stackTraces = false := (show e.platform.stackTraces = l.stackTraces by rw [X.admits.platform]).trans hl
  have Y := vx_rebase X (R' := { frames := R.frames, locals := R.locals, cells := 1, slots := 6 }) (Nat.le_refl _) (Nat.le_refl _) hRcells hRslots
  obtain ⟨s', hA⟩ : ∃ z, z = (T.setVm s.vm).setFrames (.invoking m args :: below) := ⟨_, rfl⟩
  rw [← hA] at Y
  have hvm : s'.vm = s.vm := by rw [hA]; rfl
  have hhp : s'.heap = H := by rw [hA]; exact hT
  have hW0 : s.WarmedH s'.vm := by rw [hvm]; exact State.WarmedH.refl s
  have hat' : ∀ w ∈ vx_atS own ic cls names, w.before args s' = true := fun w hw => vx_ot_at hW0 hvm.symm (hgood w (List.mem_cons_of_mem _ (List.mem_cons_of_mem _ hw))) (hat w hw)
  have hk' : (Cond.classLink own ik cls).before args s' = true := vx_ot_at hW0 hvm.symm (hgood _ List.mem_cons_self) hk
  have hini' : (Cond.initialized cls).before args s' = true := vx_ot_at hW0 hvm.symm (hgood _ (List.mem_cons_of_mem _ List.mem_cons_self)) hini
  have hU' : vx_Zq Bundle.tN "UNASSIGNED_STACK" Bundle.steD A s' s'.heap := by rw [hhp]; exact vx_Zq.moved hW0.alike (hU.kept hS.2.1)
  have hN' : vx_Zq Bundle.tN "SUPPRESSED_SENTINEL" Bundle.listD A s' s'.heap := by rw [hhp]; exact vx_Zq.moved hW0.alike (hN.kept hS.2.1)
  have h : ∀ w ∈ Bundle.ownAtoms own ic cls names, w.before args s' = true := vx_own hat' (vx_isRefq hU'.1) (vx_isRefq hN'.1) hU'.2.word hN'.2.word
  have hown' : s'.vm.findClass own = some m.cls := by rw [hvm]; exact hown
  have hins : (Cond.instantiable cls 6).before args s' = true := h _ (by simp [Bundle.ownAtoms])
  obtain ⟨vm₁, cX, kX, hfX, hkX, -, -, X₁, st1⟩ := Y.newCold hexec (own := own) (C := cls) (index := ik) (n := 6) hown' hk' hins hini'
    (g := F0 m pc ls rest) rfl (by rw [hb]; exact d0) (Nat.le_refl _) (Nat.le_refl _)
  generalize hT1 : (T.setVm vm₁).pushCell { cls := cX, slots := kX.instanceTypes.map defaultValue, vm := .none } = T1 at X₁ st1
  have hcat : (Value.ref T.heap.size).category = 1 := rfl
  have hcellA : T1.heap[T.heap.size]? = some (freshCell cX kX) := by rw [← hT1]; exact State.heap_pushCell_size _ _
  have d3' : decode c.code (pc + 3) = .ok (.dup, 1) := by rw [hb]; exact d3
  have d4' : decode c.code (pc + 4) = .ok (.ldc_w is, 3) := by rw [hb]; exact d4
  have hstr' : vk_R own is text sa s' := vk_R.warm hW0 hstr
  obtain ⟨U, hsteps, hrun, hend, hW, hsame, ce, hce, hO⟩ := X₁.ctorThrowS hexec htr (own := own) (cls := cls) (names := names) (ic := ic) hown' hcls hnames h (fun x hx => nomatch hx) hfX hkX hcellA (by rw [hhp, hT]; exact Nat.le_refl _) (msg := .ref sa) rfl
    (g := { method := m, pc := pc + 7, locals := ls, stack := .ref sa :: .ref T.heap.size :: .ref T.heap.size :: rest, locked := none }) rfl hsize rfl rfl (rest := rest) rfl
    (by rw [hb]; exact d7) (by rw [hb]; exact d10) hout hRframes (by simp only [List.map_cons, List.sum_cons, hcat]; omega) hlocks
  obtain ⟨f1, f2⟩ := vx_frame hsame
  rw [hhp] at f1 f2
  have hWs : s.WarmedH U.vm := State.WarmedH.trans hW0 hW
  have hcl : s.vm.findClass cls = some ce.cls := by
    have h9 := hO.cls
    rw [hvm] at h9
    exact h9
  have hall : s.sameButNew ({ U with vm := s.vm } : State) locs mc ms := by
    subst hA
    obtain ⟨e1, e2⟩ := hsame
    rw [State.setFrames_setFrames] at e1
    have h2 : (T.setVm s.vm).sameButNew ({ U with vm := s.vm } : State) [] (0 + 1) (0 + 6) := ⟨e1, e2⟩
    have h3 := X.same.trans h2
    rw [List.append_nil] at h3
    exact h3.mono hc hs
  refine ⟨U, ?_, .threw T.heap.size, hrun, hend, Or.inr ⟨T.heap.size, rfl, cls, ce, locs, hx U hWs.alike f1 (fun q hq => f2 q hq (fun z hz => nomatch hz)), hce, hO.vm, hcl, hWs, hall, hf⟩⟩
  refine st1 _ ?_
  show Steps p.tables e below (T1.setTop { method := m, pc := pc + 3, locals := ls, stack := .ref T.heap.size :: rest, locked := none }) _
  jvm_step X₁.here [X₁.here.top, hexec, d3', Value.category]
  exact X₁.ldcStringW hexec (own := own) (text := text) (index := is) (a := sa) hown' hstr'.1 hstr'.2
    (g := { method := m, pc := pc + 4, locals := ls, stack := .ref T.heap.size :: .ref T.heap.size :: rest, locked := none }) rfl d4' _ hsteps
end Ends
section Bodies
variable {l : Launch}
theorem vx_ofW {y : MethodName} {ws ws' : List Cond} {rm : Room} {Pc : Array Value → State → Prop} {Qc : Array Value → State → Outcome → State → Prop} {XC : String → State → State → Prop} {mc ms : Nat} {free : Addr → Prop} {cc : ByteArray} {maxL : Nat} {ret : Option FieldType}
    (hy : plainName y.cls = true) (hw : ws = Cond.code y cc maxL ret :: ws')
    (body : ∀ p e s m args below meth c s₁, BodyLoose p l y (headSpec ws rm) cc maxL ret e s m args below meth c s₁ → c.maxLocals = maxL → (∀ x ∈ c.exceptionTable.toList, False) → Pc args s →
      W p l e (headSpec ws rm).room s m args below meth c s.heap [] 0 0 (vx_MQ below Qc XC args s mc ms free) (entryFrame m args maxL)) : vx_Met l y ws rm Pc Qc XC mc ms free := by
  refine MetFree.of_bodyS (code := cc) (maxLocals := maxL) (ret := ret) hy ?_ ?_
  · intro args s m h hn
    obtain ⟨meth, c, h1, h2, h3, h4, h5, h6, -, -⟩ := Cond.code_spec hn (atoms_spec (ws := ws) h _ (by rw [hw]; exact List.mem_cons_self))
    exact ⟨meth, c, h1, h2, h3, h4, h5, h6⟩
  · intro p e s m args below meth c s₁ B hml hP _
    have hh0 : s₁.heap = s.heap := by rw [B.state]; rfl
    have ht : ∀ x ∈ c.exceptionTable.toList, False := by
      obtain ⟨meth9, c9, h1, h2, -, -, -, -, h7, -⟩ := Cond.code_spec B.named (atoms_spec (ws := ws) B.pre _ (by rw [hw]; exact List.mem_cons_self))
      cases Option.some.inj (h1.symm.trans B.method)
      cases Option.some.inj (h2.symm.trans (Stand.of_body B).code)
      intro x hx
      rw [Array.isEmpty_iff.mp h7] at hx
      cases hx
    obtain ⟨t, a1, o, b1, b2, b3⟩ := body p e s m args below meth c s₁ B hml ht hP s₁ hh0 (Stand.of_body B)
    exact ⟨t, o, a1, b1, b2, b3⟩
/-- the table of a body with handlers -/
theorem vx_table {p : Program} {x y : MethodName} {S : Spec} {cc bytes : ByteArray} {maxL maxL' : Nat} {ret ret' : Option FieldType} {e : Env} {s s₁ : State} {m : MethodId} {args : Array Value} {below : List Frame} {meth : Method} {c : Code} {hh : List (Nat × Nat × Nat × Nat)}
    (B : BodyLoose p l y S cc maxL ret e s m args below meth c s₁) (h : (Cond.codeWith y bytes maxL' ret' hh).before args s = true) : c.exceptionTable.toList = tableOf hh := by
  obtain ⟨m9, meth9, c9, hn9, h1, h2, -, -, h6, -⟩ := Cond.codeWith_spec h
  cases Option.some.inj (hn9.symm.trans B.named)
  cases Option.some.inj (h1.symm.trans B.method)
  cases Option.some.inj (h2.symm.trans (Stand.of_body B).code)
  rw [← h6, table_eq]
end Bodies
end VXA
/-! ===== END ===== -/
/-! ===== BEGIN a static call of a method with an exception table ===== -/
section VXS
variable {p : Program} {l : Launch} {e : Env} {R : Room} {s : State} {m : MethodId} {args : Array Value} {below : List Frame} {meth : Method} {c : Code} {T : State} {H : Heap} {locs : List Loc} {cells slots : Nat}
abbrev vx_CSW (R : Room) (s : State) (args : Array Value) (own : String) (index : Nat) (y : MethodName) (bytes : ByteArray) (maxL : Nat) (ret : Option FieldType) (hh : List (Nat × Nat × Nat × Nat)) (ws : List Cond) (rm : Room) (mc ms n : Nat) : Prop :=
  (rm.cells = mc ∧ rm.slots = ms ∧ rm.frames + 1 ≤ R.frames ∧ 8 + (maxL + 11) + rm.locals ≤ R.locals ∧ (∀ w ∈ ws, ∀ (a' : Array Value) (U : State), s.WarmedH U.vm → w.before a' U = true) ∧ Cond.codeWith y bytes maxL ret hh ∈ ws) ∧
  (Cond.codeWith y bytes maxL ret hh).before args s = true ∧ (Cond.initialized y.cls).before args s = true ∧ (y.cls ≠ "java/lang/invoke/MethodHandle" ∧ y.cls ≠ "java/lang/invoke/VarHandle") ∧
  (∀ sig, parseMethodDescriptor y.desc = some sig → n = sig.parameters.length) ∧ (Cond.methodLink own index y).before args s = true ∧ (Cond.static y).before args s = true
theorem vx_cwSW {own : String} {index maxL mc ms : Nat} {y : MethodName} {bytes : ByteArray} {ret : Option FieldType} {hh : List (Nat × Nat × Nat × Nat)} {Ts ws ws' : List Cond} {rm : Room} (n : Nat) (ht : ∀ w ∈ Ts, w.before args s = true) (hT : GoodIn Ts (va_wsS own index y ws)) (hw : ws = Cond.codeWith y bytes maxL ret hh :: ws') (hrc : rm.cells = mc) (hrs : rm.slots = ms)
    (hd : y.cls ≠ "java/lang/invoke/MethodHandle" ∧ y.cls ≠ "java/lang/invoke/VarHandle" ∧ (parseMethodDescriptor y.desc).map (fun d => d.parameters.length) = some n) (hR : rm.frames + 1 ≤ R.frames ∧ 8 + (maxL + 11) + rm.locals ≤ R.locals) :
    vx_CSW R s args own index y bytes maxL ret hh ws rm mc ms n := by
  have ok : ∀ w ∈ va_wsS own index y ws, w.before args s = true := fun w h => ht w (hT w h).1
  have hG : GoodIn Ts ws := fun w h => hT w (by unfold va_wsS; exact List.mem_append_right _ h)
  have hc : Cond.codeWith y bytes maxL ret hh ∈ ws := by rw [hw]; exact List.mem_cons_self
  refine ⟨⟨hrc, hrs, hR.1, hR.2, pay_in ht hG, hc⟩, ht _ (hG _ hc).1, ok _ (by simp [va_wsS]), ⟨hd.1, hd.2.1⟩, fun sig h => ?_, ok _ (by simp [va_wsS]), ok _ (by simp [va_wsS])⟩
  have h2 := hd.2.2
  rw [h] at h2
  exact (Option.some.inj h2).symm
theorem vx_callSW (X : Stand p l e R s m args below meth c T locs cells slots) (hexec : p.tables.exec = Jvm.exec) {own : String} {index : Nat} {y : MethodName} {bytes : ByteArray} {maxL : Nat} {ret : Option FieldType} {hh : List (Nat × Nat × Nat × Nat)}
    (hown : s.vm.findClass own = some m.cls) (hlink : (Cond.methodLink own index y).before args s = true) (hstat : (Cond.static y).before args s = true) (hinit : (Cond.initialized y.cls).before args s = true)
    (hcode : (Cond.codeWith y bytes maxL ret hh).before args s = true) (hy : y.cls ≠ "java/lang/invoke/MethodHandle" ∧ y.cls ≠ "java/lang/invoke/VarHandle")
    {W9 : Nat} {Pre : Pt → Array Value → Prop} {Post : Pt → Array Value → Option Value → Pt → Prop} (hK : Back l R p e below s args y 3 W9 Pre Post)
    {g : JFrame} (hg : g.method = m) (hsize : g.locals.size = c.maxLocals) {argsL rest : List Value} (hlen : ∀ sig, parseMethodDescriptor y.desc = some sig → argsL.length = sig.parameters.length)
    (hstack : g.stack = argsL.reverse ++ rest) (hW : 2 * g.monitorRoom + (rest.map fun v => v.category).sum ≤ W9) (hdg : decode c.code g.pc = .ok (.invokestatic index, 3))
    (hpre : ∀ vm₁, s.WarmedH vm₁ → Pre ⟨T.setVm vm₁, locs, cells, slots⟩ argsL.toArray) :
    ∃ (v : Option Value) (vm₁ : Vm) (B : Pt), s.WarmedH vm₁ ∧ Stand p l e R s m args below meth c B.U B.locs B.cells B.slots ∧ Post ⟨T.setVm vm₁, locs, cells, slots⟩ argsL.toArray v B ∧
      ∀ target, Steps p.tables e below (B.U.setTop { g with pc := g.pc + 3, stack := v.toList ++ rest }) target → Steps p.tables e below (T.setTop g) target := by
  obtain ⟨mk, methM, cM, hnamed, hmethM, -, -, -, -, -, -, hsigM⟩ := Cond.codeWith_spec hcode
  have hstatic : methM.isStatic = true := Cond.static_spec hnamed hmethM hstat
  obtain ⟨kP, hkP, -⟩ := className_of_methodNamed hnamed
  have hinitP : kP.init = .initialized := Cond.initialized_spec (findClass_of_methodNamed hnamed) hkP hinit
  obtain ⟨vm₁, X₁, hstep₁⟩ := X.invokestatic hexec hown hlink hnamed hmethM hstatic hkP hinitP hy (g := g) hg (argsL := argsL) (rest := rest) (hlen _ hsigM) hstack hdg
  obtain ⟨v, B, X', hpost, hsteps⟩ := hK m meth c ⟨T.setVm vm₁, locs, cells, slots⟩ { g with stack := rest } (.invokestatic index) mk argsL.toArray X₁ hg hsize hdg hW (X₁.named hnamed) (hpre vm₁ X₁.warmed)
  exact ⟨v, vm₁, B, X₁.warmed, X', hpost, fun target h => hstep₁ _ fun acts => by rw [doInvoke_state]; exact hsteps.trans h⟩
theorem vx_runSW {y : MethodName} {bytes cc : ByteArray} {maxL nL mc ms n index : Nat} {ret : Option FieldType} {hh : List (Nat × Nat × Nat × Nat)} {ws : List Cond} {rm : Room} {Pc : Array Value → State → Prop} {Qc : Array Value → State → Outcome → State → Prop} {free : Addr → Prop} {Ts : List Cond} {own : String} {As rest : List Value} {g : JFrame}
    (S : CallFix p m c cc nL s args Ts own) (hM : Met l y ws rm Pc Qc mc ms free) (cw : vx_CSW R s args own index y bytes maxL ret hh ws rm mc ms n) (hp : PreS s H Pc As)
    (hg : g.method = m) (hn : As.length = n) (hsize : g.locals.size = nL) (hstack : g.stack = As.reverse ++ rest) (hW : 2 * g.monitorRoom + (rest.map fun v => v.category).sum ≤ 8) (hdg : decode cc g.pc = .ok (.invokestatic index, 3)) (hf : cells + mc ≤ R.cells ∧ slots + ms ≤ R.slots) :
    va_Run p l e R s m args below meth c H locs cells slots mc ms g rest (Qc As.toArray) (free) := by
  obtain ⟨⟨hrc, hrs, hfr, hlo, hws, hcw⟩, hcode, hini, hy, hlen, hl, hstt⟩ := cw
  have hK : Back l R p e below s args y 3 8 (PreOf R mc ms Pc) (PostOf Qc mc ms free) := va_backW (hh := hh) (bytes := bytes) (maxL := maxL) (ret := ret) hM hp.1 hrc hrs hfr hlo hws hcw (fun a' U hW => word_at hW (Or.inl (by first | rfl | simp [Cond.onTables, Cond.keeps, Cond.steady])) hini)
  obtain ⟨hx, hb, hml, ho, -⟩ := S
  intro T hT X
  obtain ⟨v, vm₁, ⟨U', l2, c2, s2⟩, hW₁, X', ⟨g', mk, t, L, e1, e2, hq, h1, hL, h2, h3⟩, st⟩ := vx_callSW X hx (hh := hh) (bytes := bytes) (maxL := maxL) (ret := ret) ho hl hstt hini hcode hy hK hg (hsize.trans hml.symm) (argsL := As) (rest := rest) (fun sig h => hn.trans (hlen sig h)) hstack hW (by rw [hb]; exact hdg)
    (fun vm₁ hW₁ => ⟨hf.1, hf.2, hp.2 (T.setVm vm₁) hT hW₁⟩)
  dsimp only [Pt.U, Pt.locs, Pt.cells, Pt.slots] at X' e1 e2 h1 h2 h3 st
  subst h1; subst h2; subst h3
  exact ⟨v, (T.setVm vm₁).calling g' mk As.toArray, t, U', L, hT, X', hL, e1, e2, hq, st⟩
/-- not caught here, past rows that name other classes: it goes on to the caller -/
theorem vx_outP {p : Program} {l : Launch} {e : Env} {R : Room} {s : State} {m : MethodId} {args : Array Value} {below : List Frame} {meth : Method} {c : Code} {H : Heap} {locs : List Loc} {cells slots : Nat} {free : Addr → Prop} {ls : Array Slot} {rest : List Value} {Qc : Array Value → State → Outcome → State → Prop} {XC : String → State → State → Prop}
    {pc : Nat} {own E : String} {ce : Cell} {q : Addr} {mc ms : Nat} (hown : s.vm.findClass own = some m.cls) (hlocks : meth.locks = false)
    (hpass : ∀ z ∈ c.exceptionTable.toList, covers z pc = false ∨ (z.catchType ≠ 0 ∧ ∃ nm : String, (Cond.classLink own z.catchType nm).before args s = true ∧ va_Nc E nm s)) (hcell : H[q]? = some ce) (hv : ce.vm = .none) (hcl : s.vm.findClass E = some ce.cls)
    (hx : ∀ t : State, t.heap = H → s.vm.Alike t.vm → XC E s t) (hf : ∀ z ∈ locs, free z.base) (hc : cells ≤ mc) (hs : slots ≤ ms) :
    vx_W p l e R s m args below meth c H locs cells slots (vx_MQ below Qc XC args s mc ms free) (F0 m pc ls rest) q := by
  intro T hT X
  have hpl : e.platform.magicAccessors = ({} : Platform).magicAccessors := by rw [X.admits.platform]
  obtain ⟨vm', hW', X', st⟩ := Stand.outThrough X hlocks q (g := F0 m pc ls rest) rfl rfl rfl (cell := ce) (by rw [hT]; exact hcell) (by rw [hv]; rfl)
    (by obtain ⟨k9, h9, -⟩ := Vm.findClass_spec hcl; exact ⟨k9, h9⟩) (fun z hz => by
      rcases hpass z hz with h | ⟨hz0, nm, hl1, hn1⟩
      · exact Or.inl h
      · obtain ⟨c6, hc6, hcl6⟩ := Cond.classLink_spec hown hl1 e.platform hpl
        obtain ⟨a8, b8, h1, h2, h3⟩ := hn1
        cases Option.some.inj (h1.symm.trans hcl)
        cases Option.some.inj (h2.symm.trans hc6)
        exact Or.inr ⟨hz0, _, hcl6, h3⟩)
  obtain ⟨g₀, hfr⟩ := X'.frames_eq
  have hcell9 : ((T.setVm vm').setFrames (.throwing q :: below)).heap[q]? = some ce := by
    show T.heap[q]? = some ce
    rw [hT]; exact hcell
  have hend : Ended ((T.setVm vm').setFrames (.throwing q :: below)) below (.threw q) := State.frames_setFrames _ (State.cur_lt_of_frames hfr)
  refine ⟨(T.setVm vm').setFrames (.throwing q :: below), ?_, .threw q, X'.here.running, hend, Or.inr ⟨q, rfl, E, ce, locs, hx _ hT (X'.ends _).1.alike, hcell9, hv, hcl, (X'.ends _).1, (X'.ends _).2.mono hc hs, hf⟩⟩
  rw [X.pushThrowing_eq]
  exact st
/-- a thing of a world lies in the heap -/
theorem vx_lt {D : va_G} {cl : List vw_C} {ws : va_W} {H1 : Heap} (h : va_P D cl ws H1) {k : Nat} {q : Nat × va_E} (hk : ws[k]? = some q) : q.1 < H1.size := (h k q hk).lt
end VXS
/-! ===== END ===== -/
/-! ===== BEGIN methods with a table of their own: called by a name, returning or throwing ===== -/
section VXH
/-! vx_backW, vx_callVX, vx_callSX, vx_callVW, vx_runVW, vx_runVX, vx_runSX, vx_ofWH follow the same proofs as their sisters above (Free/Laws.lean, Shelf42/LK1.lean); vx_outP calls Shelf42/NT130.lean (outThrough). -/
section
variable {l : Launch} {R : Room} {p : Program} {e : Env} {below : List Frame} {s : State} {sargs : Array Value} {y : MethodName} {len W9 : Nat}
theorem vx_backW {ws : List Cond} {rm : Room} {Pc : Array Value → State → Prop} {Qc : Array Value → State → Outcome → State → Prop} {XC : String → State → State → Prop} {mc ms : Nat} {free : Addr → Prop} {bytes : ByteArray} {maxL : Nat} {ret : Option FieldType} {hh : List (Nat × Nat × Nat × Nat)}
    (hM : vx_Met l y ws rm Pc Qc XC mc ms free) (hblind : FrameBlind Pc) (hrc : rm.cells = mc) (hrs : rm.slots = ms)
    (hframes : rm.frames + 1 ≤ R.frames) (hlocals : W9 + (maxL + 11) + rm.locals ≤ R.locals)
    (hws : ∀ w ∈ ws, ∀ a' U, s.WarmedH U.vm → w.before a' U = true) (hcode : Cond.codeWith y bytes maxL ret hh ∈ ws) (hinit : ∀ a' U, s.WarmedH U.vm → (Cond.initialized y.cls).before a' U = true) :
    vx_Back l R p e below s sargs y len W9 (PreOf R mc ms Pc) (PostOf Qc mc ms free) (vx_Post XC mc ms free) := by
  intro m meth c A g ig mk a X hg hsize hdg hW hn hp
  have h1 : (headSpec ws rm).pre.before a A.U = true := atoms_intro fun w hw => hws w hw _ _ X.warmed
  have h2 : (Cond.codeWith y bytes maxL ret hh).before a A.U = true := hws _ hcode _ _ X.warmed
  have h3 : (Cond.initialized y.cls).before a A.U = true := hinit _ _ X.warmed
  have h4 : A.cells + (headSpec ws rm).room.cells ≤ R.cells := by rw [show (headSpec ws rm).room.cells = mc from hrc]; exact hp.1
  have h5 : A.slots + (headSpec ws rm).room.slots ≤ R.slots := by rw [show (headSpec ws rm).room.slots = ms from hrs]; exact hp.2.1
  have hPc : Pc a (A.U.calling g mk a) := hblind _ _ _ _ hp.2.2
  obtain ⟨U, Ls, c0, s0⟩ := A
  dsimp only [Pt.U, Pt.locs, Pt.cells, Pt.slots] at h1 h2 h3 h4 h5 X hn hPc ⊢
  obtain ⟨m9, methY, cY, hn9, hmY, hcY, -, hlY, -⟩ := Cond.codeWith_spec h2
  cases Option.some.inj (hn9.symm.trans hn)
  obtain ⟨kY, hkY, -⟩ := className_of_methodNamed hn
  have hinitY : kY.init = .initialized := Cond.initialized_spec (findClass_of_methodNamed hn) hkY h3
  have h : At U g.method c below := by rw [hg]; exact X.here
  have hlocals9 : W9 + (maxL + 11) + (headSpec ws rm).room.locals ≤ R.locals := hlocals
  have happ : (headSpec ws rm).appliesLoose y e.platform (U.calling g mk a) = true :=
    Spec.appliesLoose_calling (g := g) h hdg hn hkY hinitY
      (X.room_calling (g := g) (R' := (headSpec ws rm).room) hsize hmY hcY hframes (by rw [hlY]; omega) h4 h5) h1
  obtain ⟨mid, hmid⟩ := h.above
  have hfr : (U.setTop g).frames = (.java g :: mid) ++ below := by rw [State.frames_setTop' g h.top, hmid]; rfl
  obtain ⟨o, s₂, hsteps, -, hend, hq⟩ := Steps.callFree hM p X.admits X.cas X.clock (acts := []) hfr happ hPc trivial
  have hq' : vx_Q Qc XC mc ms free a (U.calling g mk a) o s₂ := hq
  rw [State.frames_setTop' g h.top] at hend
  obtain ⟨g₀, hg0⟩ := Option.isSome_iff_exists.mp h.top
  obtain ⟨r, hr⟩ := State.topJava?_eq_some.mp hg0
  have hr' : (({ U with heap := s₂.heap, slotsUsed := s₂.slotsUsed } : State).setVm s₂.vm).frames = .java g₀ :: r := hr
  rcases hq' with ⟨hqc, L, hfe, hL⟩ | ⟨q, rfl, E, ce, L, hx, hce, hcv, hcl, hW₂, hsm, hL⟩
  · obtain ⟨⟨v, rfl⟩, hW₂, e2, q2, q3, q4, q5, q6⟩ := id hfe
    have e3 : s₂ = ({ (U.calling g mk a).setFrames s₂.frames with heap := s₂.heap, slotsUsed := s₂.slotsUsed } : State).setVm s₂.vm := by
      have : s₂ = ({ s₂ with vm := (U.calling g mk a).vm } : State).setVm s₂.vm := rfl
      rw [e2] at this
      exact this
    obtain ⟨c₂, i₂, len₂, hc₂, hd₂, hf₂⟩ := hend
    have hW' : U.WarmedH s₂.vm := hW₂
    have hcc : c₂ = c := by
      have h1 : s₂.code? g.method = U.code? g.method := by
        rw [State.code?_eq, State.code?_eq, hW'.alike.method?]
      exact Option.some.inj (hc₂.symm.trans (h1.trans h.code))
    subst hcc
    have hlen : len₂ = len := by rw [hdg] at hd₂; cases hd₂; rfl
    subst hlen
    have hs₂ : s₂ = (({ U with heap := s₂.heap, slotsUsed := s₂.slotsUsed } : State).setVm s₂.vm).setTop { g with pc := g.pc + len₂, stack := v.toList ++ g.stack } := by
      refine e3.trans ?_
      rw [hf₂, State.calling_eq h.top, State.setFrames_setFrames, State.setTop_of_frames _ hr', hr]
      rfl
    have hsame : U.sameButNew ({ U with heap := s₂.heap, slotsUsed := s₂.slotsUsed } : State) L mc ms := by
      refine ⟨?_, q2, q3, q4, q5, q6⟩
      obtain ⟨t, ht, -⟩ := State.frames_cons hr
      show ({ U with heap := s₂.heap, slotsUsed := s₂.slotsUsed } : State) = { U.setFrames U.frames with heap := s₂.heap, slotsUsed := s₂.slotsUsed }
      rw [State.setFrames_self ht]
    subst hg
    refine Or.inl ⟨v, ⟨(({ U with heap := s₂.heap, slotsUsed := s₂.slotsUsed } : State).setVm s₂.vm), Ls ++ L, c0 + mc, s0 + ms⟩,
      ⟨X.admits, X.cas, X.clock, X.frames, X.room, X.hears, X.method, X.code, (X.here.setHeapUsed s₂.heap s₂.slotsUsed).setVm hW'.alike, X.tail, State.WarmedH.trans X.warmed hW', X.limits, X.bytes, X.same.trans (hsame.setVm s.vm)⟩,
      ⟨g, mk, s₂, L, rfl, rfl, hqc, rfl, hL, rfl, rfl⟩, ?_⟩
    show Steps p.tables e below _ ((({ U with heap := s₂.heap, slotsUsed := s₂.slotsUsed } : State).setVm s₂.vm).setTop { g with pc := g.pc + len₂, stack := v.toList ++ g.stack })
    rw [← hs₂]
    exact hsteps
  · obtain ⟨e2, q2, q3, q4, q5, q6⟩ := id hsm
    have e3 : s₂ = ({ (U.calling g mk a).setFrames s₂.frames with heap := s₂.heap, slotsUsed := s₂.slotsUsed } : State).setVm s₂.vm := by
      have : s₂ = ({ s₂ with vm := (U.calling g mk a).vm } : State).setVm s₂.vm := rfl
      rw [e2] at this
      exact this
    have hf₂ : s₂.frames = .throwing q :: .java g :: U.frames.tail := hend
    have hW' : U.WarmedH s₂.vm := hW₂
    have hs₂ : s₂ = ((({ U with heap := s₂.heap, slotsUsed := s₂.slotsUsed } : State).setVm s₂.vm).setTop g).pushFrame (.throwing q) := by
      refine e3.trans ?_
      rw [hf₂, State.calling_eq h.top, State.setFrames_setFrames, State.pushFrame, State.frames_setTop _ hr', State.setTop_of_frames _ hr', State.setFrames_setFrames, hr]
      rfl
    have hsame : U.sameButNew ({ U with heap := s₂.heap, slotsUsed := s₂.slotsUsed } : State) L mc ms := by
      refine ⟨?_, q2, q3, q4, q5, q6⟩
      obtain ⟨t, ht, -⟩ := State.frames_cons hr
      show ({ U with heap := s₂.heap, slotsUsed := s₂.slotsUsed } : State) = { U.setFrames U.frames with heap := s₂.heap, slotsUsed := s₂.slotsUsed }
      rw [State.setFrames_self ht]
    subst hg
    refine Or.inr ⟨q, ⟨(({ U with heap := s₂.heap, slotsUsed := s₂.slotsUsed } : State).setVm s₂.vm), Ls ++ L, c0 + mc, s0 + ms⟩,
      ⟨X.admits, X.cas, X.clock, X.frames, X.room, X.hears, X.method, X.code, (X.here.setHeapUsed s₂.heap s₂.slotsUsed).setVm hW'.alike, X.tail, State.WarmedH.trans X.warmed hW', X.limits, X.bytes, X.same.trans (hsame.setVm s.vm)⟩,
      ⟨g, mk, s₂, L, E, ce, rfl, rfl, hx, hce, hcv, hcl, rfl, hL, rfl, rfl⟩, ?_⟩
    show Steps p.tables e below _ (((({ U with heap := s₂.heap, slotsUsed := s₂.slotsUsed } : State).setVm s₂.vm).setTop g).pushFrame (.throwing q))
    rw [← hs₂]
    exact hsteps
end
variable {p : Program} {l : Launch} {e : Env} {R : Room} {s : State} {m : MethodId} {args : Array Value} {below : List Frame} {meth : Method} {c : Code} {T : State} {H : Heap} {locs : List Loc} {cells slots : Nat}
theorem vx_callVX (X : Stand p l e R s m args below meth c T locs cells slots) (hexec : p.tables.exec = Jvm.exec) {own C : String} {index : Nat} {y : MethodName} {bytes : ByteArray} {maxL : Nat} {ret : Option FieldType} {hh : List (Nat × Nat × Nat × Nat)}
    (hown : s.vm.findClass own = some m.cls) (hlink : (Cond.methodLink own index y).before args s = true) (hinst : (Cond.instanceMethod y).before args s = true) (hsel : (Cond.selects C y y).before args s = true)
    (hcode : (Cond.codeWith y bytes maxL ret hh).before args s = true) (hy : y.cls ≠ "java/lang/invoke/MethodHandle" ∧ y.cls ≠ "java/lang/invoke/VarHandle")
    {W9 : Nat} {Pre : Pt → Array Value → Prop} {Post : Pt → Array Value → Option Value → Pt → Prop} {PostX : Pt → Array Value → Addr → Pt → Prop} (hK : vx_Back l R p e below s args y 3 W9 Pre Post PostX)
    {b : Addr} {cellB : Cell} (hcell : T.heap[b]? = some cellB) (hobj : cellB.vm.isStatics = false) (hcls : s.vm.findClass C = some cellB.cls)
    {g : JFrame} (hg : g.method = m) (hsize : g.locals.size = c.maxLocals) {argsL rest : List Value} (hlen : ∀ sig, parseMethodDescriptor y.desc = some sig → argsL.length = sig.parameters.length)
    (hstack : g.stack = argsL.reverse ++ .ref b :: rest) (hW : 2 * g.monitorRoom + (rest.map fun v => v.category).sum ≤ W9) (hdg : decode c.code g.pc = .ok (.invokevirtual index, 3))
    (hpre : ∀ vm₁, s.WarmedH vm₁ → Pre ⟨T.setVm vm₁, locs, cells, slots⟩ (Value.ref b :: argsL).toArray) :
    (∃ (v : Option Value) (vm₁ : Vm) (B : Pt), s.WarmedH vm₁ ∧ Stand p l e R s m args below meth c B.U B.locs B.cells B.slots ∧ Post ⟨T.setVm vm₁, locs, cells, slots⟩ (Value.ref b :: argsL).toArray v B ∧
      ∀ target, Steps p.tables e below (B.U.setTop { g with pc := g.pc + 3, stack := v.toList ++ rest }) target → Steps p.tables e below (T.setTop g) target) ∨
    (∃ (q : Addr) (vm₁ : Vm) (B : Pt), s.WarmedH vm₁ ∧ Stand p l e R s m args below meth c B.U B.locs B.cells B.slots ∧ PostX ⟨T.setVm vm₁, locs, cells, slots⟩ (Value.ref b :: argsL).toArray q B ∧
      Steps p.tables e below (T.setTop g) ((B.U.setTop { g with stack := rest }).pushFrame (.throwing q))) := by
  obtain ⟨mk, methM, hnamed, hmethM, hstM, habM⟩ := Cond.instanceMethod_spec hinst
  obtain ⟨m8, methM', cM, hn8, hmethM', -, -, -, -, -, -, hsigM⟩ := Cond.codeWith_spec hcode
  cases Option.some.inj (hn8.symm.trans hnamed)
  cases hmethM.symm.trans hmethM'
  obtain ⟨c2, r2, m2, q1, q2, q3, q4, kP, hkP, hkPi⟩ := Cond.selects_spec hsel
  cases hcls.symm.trans q1
  cases (State.methodFound?_of_named hnamed hy).symm.trans q2
  cases hnamed.symm.trans q3
  have hselP : selectMethod e.platform s.vm cellB.cls mk = .method mk := by rw [Launch.admits_selectMethod X.admits]; exact q4
  obtain ⟨vm₁, X₁, hstep₁⟩ := X.invokevirtual hexec hown hlink hnamed hmethM hstM hkP hkPi hy (a := b) (cell := cellB) hcell
    (fun z h => by rw [h] at hobj; cases hobj) hselP hmethM habM hkP hkPi (g := g) hg (argsL := argsL) (rest := rest) (hlen _ hsigM) hstack hdg
  rcases hK m meth c ⟨T.setVm vm₁, locs, cells, slots⟩ { g with stack := rest } (.invokevirtual index) mk (Value.ref b :: argsL).toArray X₁ hg hsize hdg hW (X₁.named hnamed) (hpre vm₁ X₁.warmed) with ⟨v, B, X', hpost, hsteps⟩ | ⟨q, B, X', hpost, hsteps⟩
  · exact Or.inl ⟨v, vm₁, B, X₁.warmed, X', hpost, fun target h => hstep₁ _ fun acts => by rw [doInvoke_state]; exact hsteps.trans h⟩
  · exact Or.inr ⟨q, vm₁, B, X₁.warmed, X', hpost, hstep₁ _ fun acts => by rw [doInvoke_state]; exact hsteps⟩
theorem vx_callSX (X : Stand p l e R s m args below meth c T locs cells slots) (hexec : p.tables.exec = Jvm.exec) {own : String} {index : Nat} {y : MethodName} {bytes : ByteArray} {maxL : Nat} {ret : Option FieldType} {hh : List (Nat × Nat × Nat × Nat)}
    (hown : s.vm.findClass own = some m.cls) (hlink : (Cond.methodLink own index y).before args s = true) (hstat : (Cond.static y).before args s = true) (hinit : (Cond.initialized y.cls).before args s = true)
    (hcode : (Cond.codeWith y bytes maxL ret hh).before args s = true) (hy : y.cls ≠ "java/lang/invoke/MethodHandle" ∧ y.cls ≠ "java/lang/invoke/VarHandle")
    {W9 : Nat} {Pre : Pt → Array Value → Prop} {Post : Pt → Array Value → Option Value → Pt → Prop} {PostX : Pt → Array Value → Addr → Pt → Prop} (hK : vx_Back l R p e below s args y 3 W9 Pre Post PostX)
    {g : JFrame} (hg : g.method = m) (hsize : g.locals.size = c.maxLocals) {argsL rest : List Value} (hlen : ∀ sig, parseMethodDescriptor y.desc = some sig → argsL.length = sig.parameters.length)
    (hstack : g.stack = argsL.reverse ++ rest) (hW : 2 * g.monitorRoom + (rest.map fun v => v.category).sum ≤ W9) (hdg : decode c.code g.pc = .ok (.invokestatic index, 3))
    (hpre : ∀ vm₁, s.WarmedH vm₁ → Pre ⟨T.setVm vm₁, locs, cells, slots⟩ argsL.toArray) :
    (∃ (v : Option Value) (vm₁ : Vm) (B : Pt), s.WarmedH vm₁ ∧ Stand p l e R s m args below meth c B.U B.locs B.cells B.slots ∧ Post ⟨T.setVm vm₁, locs, cells, slots⟩ argsL.toArray v B ∧
      ∀ target, Steps p.tables e below (B.U.setTop { g with pc := g.pc + 3, stack := v.toList ++ rest }) target → Steps p.tables e below (T.setTop g) target) ∨
    (∃ (q : Addr) (vm₁ : Vm) (B : Pt), s.WarmedH vm₁ ∧ Stand p l e R s m args below meth c B.U B.locs B.cells B.slots ∧ PostX ⟨T.setVm vm₁, locs, cells, slots⟩ argsL.toArray q B ∧
      Steps p.tables e below (T.setTop g) ((B.U.setTop { g with stack := rest }).pushFrame (.throwing q))) := by
  obtain ⟨mk, methM, cM, hnamed, hmethM, -, -, -, -, -, -, hsigM⟩ := Cond.codeWith_spec hcode
  have hstatic : methM.isStatic = true := Cond.static_spec hnamed hmethM hstat
  obtain ⟨kP, hkP, -⟩ := className_of_methodNamed hnamed
  have hinitP : kP.init = .initialized := Cond.initialized_spec (findClass_of_methodNamed hnamed) hkP hinit
  obtain ⟨vm₁, X₁, hstep₁⟩ := X.invokestatic hexec hown hlink hnamed hmethM hstatic hkP hinitP hy (g := g) hg (argsL := argsL) (rest := rest) (hlen _ hsigM) hstack hdg
  rcases hK m meth c ⟨T.setVm vm₁, locs, cells, slots⟩ { g with stack := rest } (.invokestatic index) mk argsL.toArray X₁ hg hsize hdg hW (X₁.named hnamed) (hpre vm₁ X₁.warmed) with ⟨v, B, X', hpost, hsteps⟩ | ⟨q, B, X', hpost, hsteps⟩
  · exact Or.inl ⟨v, vm₁, B, X₁.warmed, X', hpost, fun target h => hstep₁ _ fun acts => by rw [doInvoke_state]; exact hsteps.trans h⟩
  · exact Or.inr ⟨q, vm₁, B, X₁.warmed, X', hpost, hstep₁ _ fun acts => by rw [doInvoke_state]; exact hsteps⟩
theorem vx_callVW (X : Stand p l e R s m args below meth c T locs cells slots) (hexec : p.tables.exec = Jvm.exec) {own C : String} {index : Nat} {y : MethodName} {bytes : ByteArray} {maxL : Nat} {ret : Option FieldType} {hh : List (Nat × Nat × Nat × Nat)}
    (hown : s.vm.findClass own = some m.cls) (hlink : (Cond.methodLink own index y).before args s = true) (hinst : (Cond.instanceMethod y).before args s = true) (hsel : (Cond.selects C y y).before args s = true)
    (hcode : (Cond.codeWith y bytes maxL ret hh).before args s = true) (hy : y.cls ≠ "java/lang/invoke/MethodHandle" ∧ y.cls ≠ "java/lang/invoke/VarHandle")
    {W9 : Nat} {Pre : Pt → Array Value → Prop} {Post : Pt → Array Value → Option Value → Pt → Prop} (hK : Back l R p e below s args y 3 W9 Pre Post)
    {b : Addr} {cellB : Cell} (hcell : T.heap[b]? = some cellB) (hobj : cellB.vm.isStatics = false) (hcls : s.vm.findClass C = some cellB.cls)
    {g : JFrame} (hg : g.method = m) (hsize : g.locals.size = c.maxLocals) {argsL rest : List Value} (hlen : ∀ sig, parseMethodDescriptor y.desc = some sig → argsL.length = sig.parameters.length)
    (hstack : g.stack = argsL.reverse ++ .ref b :: rest) (hW : 2 * g.monitorRoom + (rest.map fun v => v.category).sum ≤ W9) (hdg : decode c.code g.pc = .ok (.invokevirtual index, 3))
    (hpre : ∀ vm₁, s.WarmedH vm₁ → Pre ⟨T.setVm vm₁, locs, cells, slots⟩ (Value.ref b :: argsL).toArray) :
    ∃ (v : Option Value) (vm₁ : Vm) (B : Pt), s.WarmedH vm₁ ∧ Stand p l e R s m args below meth c B.U B.locs B.cells B.slots ∧ Post ⟨T.setVm vm₁, locs, cells, slots⟩ (Value.ref b :: argsL).toArray v B ∧
      ∀ target, Steps p.tables e below (B.U.setTop { g with pc := g.pc + 3, stack := v.toList ++ rest }) target → Steps p.tables e below (T.setTop g) target := by
  obtain ⟨mk, methM, hnamed, hmethM, hstM, habM⟩ := Cond.instanceMethod_spec hinst
  obtain ⟨m8, methM', cM, hn8, hmethM', -, -, -, -, -, -, hsigM⟩ := Cond.codeWith_spec hcode
  cases Option.some.inj (hn8.symm.trans hnamed)
  cases hmethM.symm.trans hmethM'
  obtain ⟨c2, r2, m2, q1, q2, q3, q4, kP, hkP, hkPi⟩ := Cond.selects_spec hsel
  cases hcls.symm.trans q1
  cases (State.methodFound?_of_named hnamed hy).symm.trans q2
  cases hnamed.symm.trans q3
  have hselP : selectMethod e.platform s.vm cellB.cls mk = .method mk := by rw [Launch.admits_selectMethod X.admits]; exact q4
  obtain ⟨vm₁, X₁, hstep₁⟩ := X.invokevirtual hexec hown hlink hnamed hmethM hstM hkP hkPi hy (a := b) (cell := cellB) hcell
    (fun z h => by rw [h] at hobj; cases hobj) hselP hmethM habM hkP hkPi (g := g) hg (argsL := argsL) (rest := rest) (hlen _ hsigM) hstack hdg
  obtain ⟨v, B, X', hpost, hsteps⟩ := hK m meth c ⟨T.setVm vm₁, locs, cells, slots⟩ { g with stack := rest } (.invokevirtual index) mk (Value.ref b :: argsL).toArray X₁ hg hsize hdg hW (X₁.named hnamed) (hpre vm₁ X₁.warmed)
  exact ⟨v, vm₁, B, X₁.warmed, X', hpost, fun target h => hstep₁ _ fun acts => by rw [doInvoke_state]; exact hsteps.trans h⟩
abbrev vx_CVW (R : Room) (s : State) (args : Array Value) (own C : String) (index : Nat) (y : MethodName) (bytes : ByteArray) (maxL : Nat) (ret : Option FieldType) (hh : List (Nat × Nat × Nat × Nat)) (ws : List Cond) (rm : Room) (mc ms n : Nat) : Prop :=
  (rm.cells = mc ∧ rm.slots = ms ∧ rm.frames + 1 ≤ R.frames ∧ 8 + (maxL + 11) + rm.locals ≤ R.locals ∧ (∀ w ∈ ws, ∀ (a' : Array Value) (U : State), s.WarmedH U.vm → w.before a' U = true) ∧ Cond.codeWith y bytes maxL ret hh ∈ ws) ∧
  (Cond.codeWith y bytes maxL ret hh).before args s = true ∧ (Cond.initialized y.cls).before args s = true ∧ (y.cls ≠ "java/lang/invoke/MethodHandle" ∧ y.cls ≠ "java/lang/invoke/VarHandle") ∧
  (∀ sig, parseMethodDescriptor y.desc = some sig → n = sig.parameters.length) ∧ (Cond.methodLink own index y).before args s = true ∧ (Cond.instanceMethod y).before args s = true ∧ (Cond.selects C y y).before args s = true
theorem vx_cwVW {own C : String} {index maxL mc ms : Nat} {y : MethodName} {bytes : ByteArray} {ret : Option FieldType} {hh : List (Nat × Nat × Nat × Nat)} {Ts ws ws' : List Cond} {rm : Room} (n : Nat) (ht : ∀ w ∈ Ts, w.before args s = true) (hT : GoodIn Ts (wsV own index C y ws)) (hw : ws = Cond.codeWith y bytes maxL ret hh :: ws') (hrc : rm.cells = mc) (hrs : rm.slots = ms)
    (hd : y.cls = C ∧ y.cls ≠ "java/lang/invoke/MethodHandle" ∧ y.cls ≠ "java/lang/invoke/VarHandle" ∧ (parseMethodDescriptor y.desc).map (fun d => d.parameters.length) = some n) (hR : rm.frames + 1 ≤ R.frames ∧ 8 + (maxL + 11) + rm.locals ≤ R.locals) :
    vx_CVW R s args own C index y bytes maxL ret hh ws rm mc ms n := by
  obtain ⟨hC, hd⟩ := hd
  subst hC
  have ok : ∀ w ∈ wsV own index y.cls y ws, w.before args s = true := fun w h => ht w (hT w h).1
  have hG : GoodIn Ts ws := fun w h => hT w (by unfold wsV; exact List.mem_append_right _ h)
  have hc : Cond.codeWith y bytes maxL ret hh ∈ ws := by rw [hw]; exact List.mem_cons_self
  refine ⟨⟨hrc, hrs, hR.1, hR.2, pay_in ht hG, hc⟩, ht _ (hG _ hc).1, ok _ (by simp [wsV]), ⟨hd.1, hd.2.1⟩, fun sig h => ?_, ok _ (by simp [wsV]), ok _ (by simp [wsV]), ok _ (by simp [wsV])⟩
  have h2 := hd.2.2
  rw [h] at h2
  exact (Option.some.inj h2).symm
theorem vx_runVW {y : MethodName} {bytes cc : ByteArray} {maxL nL mc ms n index : Nat} {ret : Option FieldType} {hh : List (Nat × Nat × Nat × Nat)} {ws : List Cond} {rm : Room} {Pc : Array Value → State → Prop} {Qc : Array Value → State → Outcome → State → Prop} {free : Addr → Prop} {Ts : List Cond} {own C : String} {b : Addr} {As rest : List Value} {g : JFrame}
    (S : CallFix p m c cc nL s args Ts own) (hM : Met l y ws rm Pc Qc mc ms free) (cw : vx_CVW R s args own C index y bytes maxL ret hh ws rm mc ms n) (hp : PreV s H C b Pc As)
    (hg : g.method = m) (hn : As.length = n) (hsize : g.locals.size = nL) (hstack : g.stack = As.reverse ++ .ref b :: rest) (hW : 2 * g.monitorRoom + (rest.map fun v => v.category).sum ≤ 8) (hdg : decode cc g.pc = .ok (.invokevirtual index, 3)) (hf : cells + mc ≤ R.cells ∧ slots + ms ≤ R.slots) :
    va_Run p l e R s m args below meth c H locs cells slots mc ms g rest (Qc (Value.ref b :: As).toArray) free := by
  obtain ⟨⟨hrc, hrs, hfr, hlo, hws, hcw⟩, hcode, hini, hy, hlen, hl, hin, hse⟩ := cw
  have hK : Back l R p e below s args y 3 8 (PreOf R mc ms Pc) (PostOf Qc mc ms free) := va_backW (hh := hh) (bytes := bytes) (maxL := maxL) (ret := ret) hM hp.1 hrc hrs hfr hlo hws hcw (fun a' U hW => word_at hW (Or.inl (by first | rfl | simp [Cond.onTables, Cond.keeps, Cond.steady])) hini)
  obtain ⟨hx, hb, hml, ho, -⟩ := S
  obtain ⟨-, ⟨cellB, hcB, hoB, hclB⟩, hPc⟩ := hp
  intro T hT X
  obtain ⟨v, vm₁, ⟨U', l2, c2, s2⟩, hW₁, X', ⟨g', mk, t, L, e1, e2, hq, h1, hL, h2, h3⟩, st⟩ := vx_callVW X hx (C := C) (hh := hh) (bytes := bytes) (maxL := maxL) (ret := ret) ho hl hin hse hcode hy hK (by rw [hT]; exact hcB) hoB hclB hg (hsize.trans hml.symm) (argsL := As) (rest := rest) (fun sig h => hn.trans (hlen sig h)) hstack hW (by rw [hb]; exact hdg)
    (fun vm₁ hW₁ => ⟨hf.1, hf.2, hPc (T.setVm vm₁) hT hW₁⟩)
  dsimp only [Pt.U, Pt.locs, Pt.cells, Pt.slots] at X' e1 e2 h1 h2 h3 st
  subst h1; subst h2; subst h3
  exact ⟨v, (T.setVm vm₁).calling g' mk (Value.ref b :: As).toArray, t, U', L, hT, X', hL, e1, e2, hq, st⟩
section
variable {y : MethodName} {bytes cc : ByteArray} {maxL nL mc ms n index : Nat} {ret : Option FieldType} {ws : List Cond} {rm : Room} {Pc : Array Value → State → Prop} {Qc : Array Value → State → Outcome → State → Prop} {XC : String → State → State → Prop} {free : Addr → Prop} {Ts : List Cond} {own C : String} {b : Addr} {As rest : List Value} {g : JFrame}
theorem vx_runVX {hh : List (Nat × Nat × Nat × Nat)} (S : CallFix p m c cc nL s args Ts own) (hM : vx_Met l y ws rm Pc Qc XC mc ms free) (cw : vx_CVW R s args own C index y bytes maxL ret hh ws rm mc ms n) (hp : PreV s H C b Pc As)
    (hg : g.method = m) (hn : As.length = n) (hsize : g.locals.size = nL) (hstack : g.stack = As.reverse ++ .ref b :: rest) (hW : 2 * g.monitorRoom + (rest.map fun v => v.category).sum ≤ 8) (hdg : decode cc g.pc = .ok (.invokevirtual index, 3)) (hf : cells + mc ≤ R.cells ∧ slots + ms ≤ R.slots) :
    vx_Run p l e R s m args below meth c H locs cells slots mc ms g rest (Qc (Value.ref b :: As).toArray) XC free := by
  obtain ⟨⟨hrc, hrs, hfr, hlo, hws, hcw⟩, hcode, hini, hy, hlen, hl, hin, hse⟩ := cw
  have hK : vx_Back l R p e below s args y 3 8 (PreOf R mc ms Pc) (PostOf Qc mc ms free) (vx_Post XC mc ms free) := vx_backW (hh := hh) (bytes := bytes) (maxL := maxL) (ret := ret) hM hp.1 hrc hrs hfr hlo hws hcw (fun a' U hW => word_at hW (Or.inl (by first | rfl | simp [Cond.onTables, Cond.keeps, Cond.steady])) hini)
  obtain ⟨hx, hb, hml, ho, -⟩ := S
  obtain ⟨-, ⟨cellB, hcB, hoB, hclB⟩, hPc⟩ := hp
  intro T hT X
  rcases vx_callVX X hx (C := C) (hh := hh) (bytes := bytes) (maxL := maxL) (ret := ret) ho hl hin hse hcode hy hK (by rw [hT]; exact hcB) hoB hclB hg (hsize.trans hml.symm) (argsL := As) (rest := rest) (fun sig h => hn.trans (hlen sig h)) hstack hW (by rw [hb]; exact hdg)
    (fun vm₁ hW₁ => ⟨hf.1, hf.2, hPc (T.setVm vm₁) hT hW₁⟩) with ⟨v, vm₁, ⟨U', l2, c2, s2⟩, hW₁, X', ⟨g', mk, t, L, e1, e2, hq, h1, hL, h2, h3⟩, st⟩ | ⟨q, vm₁, ⟨U', l2, c2, s2⟩, hW₁, X', ⟨g', mk, t, L, E, ce, e1, e2, hq, hce, hcv, hcl, h1, hL, h2, h3⟩, st⟩
  · dsimp only [Pt.U, Pt.locs, Pt.cells, Pt.slots] at X' e1 e2 h1 h2 h3 st
    subst h1; subst h2; subst h3
    exact Or.inl ⟨v, (T.setVm vm₁).calling g' mk (Value.ref b :: As).toArray, t, U', L, hT, X', hL, e1, e2, hq, st⟩
  · dsimp only [Pt.U, Pt.locs, Pt.cells, Pt.slots] at X' e1 e2 h1 h2 h3 st hcl
    subst h1; subst h2; subst h3
    exact Or.inr ⟨q, (T.setVm vm₁).calling g' mk (Value.ref b :: As).toArray, t, U', L, E, ce, hT, X', hL, e1, e2, hq, hce, hcv, vx_cls hW₁ hcl, st⟩
theorem vx_runSX {hh : List (Nat × Nat × Nat × Nat)} (S : CallFix p m c cc nL s args Ts own) (hM : vx_Met l y ws rm Pc Qc XC mc ms free) (cw : vx_CSW R s args own index y bytes maxL ret hh ws rm mc ms n) (hp : PreS s H Pc As)
    (hg : g.method = m) (hn : As.length = n) (hsize : g.locals.size = nL) (hstack : g.stack = As.reverse ++ rest) (hW : 2 * g.monitorRoom + (rest.map fun v => v.category).sum ≤ 8) (hdg : decode cc g.pc = .ok (.invokestatic index, 3)) (hf : cells + mc ≤ R.cells ∧ slots + ms ≤ R.slots) :
    vx_Run p l e R s m args below meth c H locs cells slots mc ms g rest (Qc As.toArray) XC free := by
  obtain ⟨⟨hrc, hrs, hfr, hlo, hws, hcw⟩, hcode, hini, hy, hlen, hl, hstt⟩ := cw
  have hK : vx_Back l R p e below s args y 3 8 (PreOf R mc ms Pc) (PostOf Qc mc ms free) (vx_Post XC mc ms free) := vx_backW (hh := hh) (bytes := bytes) (maxL := maxL) (ret := ret) hM hp.1 hrc hrs hfr hlo hws hcw (fun a' U hW => word_at hW (Or.inl (by first | rfl | simp [Cond.onTables, Cond.keeps, Cond.steady])) hini)
  obtain ⟨hx, hb, hml, ho, -⟩ := S
  intro T hT X
  rcases vx_callSX X hx (hh := hh) (bytes := bytes) (maxL := maxL) (ret := ret) ho hl hstt hini hcode hy hK hg (hsize.trans hml.symm) (argsL := As) (rest := rest) (fun sig h => hn.trans (hlen sig h)) hstack hW (by rw [hb]; exact hdg)
    (fun vm₁ hW₁ => ⟨hf.1, hf.2, hp.2 (T.setVm vm₁) hT hW₁⟩) with ⟨v, vm₁, ⟨U', l2, c2, s2⟩, hW₁, X', ⟨g', mk, t, L, e1, e2, hq, h1, hL, h2, h3⟩, st⟩ | ⟨q, vm₁, ⟨U', l2, c2, s2⟩, hW₁, X', ⟨g', mk, t, L, E, ce, e1, e2, hq, hce, hcv, hcl, h1, hL, h2, h3⟩, st⟩
  · dsimp only [Pt.U, Pt.locs, Pt.cells, Pt.slots] at X' e1 e2 h1 h2 h3 st
    subst h1; subst h2; subst h3
    exact Or.inl ⟨v, (T.setVm vm₁).calling g' mk As.toArray, t, U', L, hT, X', hL, e1, e2, hq, st⟩
  · dsimp only [Pt.U, Pt.locs, Pt.cells, Pt.slots] at X' e1 e2 h1 h2 h3 st hcl
    subst h1; subst h2; subst h3
    exact Or.inr ⟨q, (T.setVm vm₁).calling g' mk As.toArray, t, U', L, E, ce, hT, X', hL, e1, e2, hq, hce, hcv, vx_cls hW₁ hcl, st⟩
end
end VXH
theorem vx_ofWH {l : Launch} {y : MethodName} {ws ws' : List Cond} {rm : Room} {Pc : Array Value → State → Prop} {Qc : Array Value → State → Outcome → State → Prop} {XC : String → State → State → Prop} {mc ms : Nat} {free : Addr → Prop} {cc : ByteArray} {maxL : Nat} {ret : Option FieldType} {hh : List (Nat × Nat × Nat × Nat)}
    (hy : plainName y.cls = true) (hw : ws = Cond.codeWith y cc maxL ret hh :: ws')
    (body : ∀ p e s m args below meth c s₁, BodyLoose p l y (headSpec ws rm) cc maxL ret e s m args below meth c s₁ → c.maxLocals = maxL → Pc args s →
      W p l e (headSpec ws rm).room s m args below meth c s.heap [] 0 0 (vx_MQ below Qc XC args s mc ms free) (entryFrame m args maxL)) : vx_Met l y ws rm Pc Qc XC mc ms free := by
  refine MetFree.of_bodyS (code := cc) (maxLocals := maxL) (ret := ret) hy ?_ ?_
  · intro args s m h hn
    obtain ⟨m9, meth, c, hn9, h1, h2, h3, h4, -, h5, h6, -⟩ := Cond.codeWith_spec (atoms_spec (ws := ws) h _ (by rw [hw]; exact List.mem_cons_self))
    cases hn.symm.trans hn9
    exact ⟨meth, c, h1, h2, h3, h4, h5, h6⟩
  · intro p e s m args below meth c s₁ B hml hP _
    have hh0 : s₁.heap = s.heap := by rw [B.state]; rfl
    obtain ⟨t, a1, o, b1, b2, b3⟩ := body p e s m args below meth c s₁ B hml hP s₁ hh0 (Stand.of_body B)
    exact ⟨t, o, a1, b1, b2, b3⟩
/-! ===== END ===== -/
end
section
def RX0 : String := "StillYear$Book"
def TX0 : u_T := fun k => match k with
  | 0 => ("StillYear$Book", "amounts", "[I", true)
  | 1 => ("StillYear$Book", "seatsInLines", "I", false)
  | _ => ("StillYear$Book", "lines", "I", false)
def tyX0 : Nat → FieldType := fun k => match k with
  | 0 => .array .int
  | 1 => .int
  | _ => .int
abbrev wsX00 : List Cond := u_ws RX0 TX0 3
theorem nmX0 : ∀ a, a < 3 → ∀ b, b < 3 → a ≠ b → (TX0 a).2.1 ≠ (TX0 b).2.1 := by decide +kernel
theorem tyX0_ok : ∀ k, k < 3 → parseFieldDescriptor (TX0 k).2.2.1 = some (tyX0 k) := by decide +kernel
abbrev cX0_init : ByteArray := prog_2_method_1_code
def yX0_init : MethodName := ⟨RX0, "<init>", "()V"⟩
abbrev cX0_hasLine : ByteArray := prog_2_method_2_code
def yX0_hasLine : MethodName := ⟨RX0, "hasLine", "(I)Z"⟩
abbrev cX0_amountOn : ByteArray := prog_2_method_3_code
def yX0_amountOn : MethodName := ⟨RX0, "amountOn", "(I)I"⟩
abbrev cX0_read : ByteArray := prog_2_method_4_code
def yX0_read : MethodName := ⟨RX0, "read", "(LStillYear$Tape;I)Z"⟩
abbrev cX0_readLine : ByteArray := prog_2_method_5_code
def yX0_readLine : MethodName := ⟨RX0, "readLine", "(LStillYear$Tape;I)Z"⟩
def RX1 : String := "StillYear$Law"
def TX1 : u_T := fun k => match k with
  | 0 => ("StillYear$Law", "codes", "[I", true)
  | 1 => ("StillYear$Law", "waiting", "[I", true)
  | 2 => ("StillYear$Law", "asked", "[I", true)
  | _ => ("StillYear$Law", "length", "I", false)
def tyX1 : Nat → FieldType := fun k => match k with
  | 0 => .array .int
  | 1 => .array .int
  | 2 => .array .int
  | _ => .int
abbrev wsX10 : List Cond := u_ws RX1 TX1 4
theorem nmX1 : ∀ a, a < 4 → ∀ b, b < 4 → a ≠ b → (TX1 a).2.1 ≠ (TX1 b).2.1 := by decide +kernel
theorem tyX1_ok : ∀ k, k < 4 → parseFieldDescriptor (TX1 k).2.2.1 = some (tyX1 k) := by decide +kernel
abbrev cX1_init : ByteArray := prog_3_method_1_code
def yX1_init : MethodName := ⟨RX1, "<init>", "()V"⟩
abbrev cX1_askPlace : ByteArray := prog_3_method_2_code
def yX1_askPlace : MethodName := ⟨RX1, "askPlace", "(III)V"⟩
abbrev cX1_askPerson : ByteArray := prog_3_method_3_code
def yX1_askPerson : MethodName := ⟨RX1, "askPerson", "(III)V"⟩
abbrev cX1_askTime : ByteArray := prog_3_method_4_code
def yX1_askTime : MethodName := ⟨RX1, "askTime", "(II)V"⟩
abbrev cX1_result : ByteArray := prog_3_method_5_code
def yX1_result : MethodName := ⟨RX1, "result", "()I"⟩
abbrev cX1_valueOf : ByteArray := prog_3_method_6_code
def yX1_valueOf : MethodName := ⟨RX1, "valueOf", "(I)I"⟩
abbrev cX1_join : ByteArray := prog_3_method_7_code
def yX1_join : MethodName := ⟨RX1, "join", "(III)I"⟩
abbrev cX1_read : ByteArray := prog_3_method_8_code
def yX1_read : MethodName := ⟨RX1, "read", "(LStillYear$Tape;)Z"⟩
abbrev cX1_readSum : ByteArray := prog_3_method_9_code
def yX1_readSum : MethodName := ⟨RX1, "readSum", "(LStillYear$Tape;I)Z"⟩
abbrev cX1_readProduct : ByteArray := prog_3_method_10_code
def yX1_readProduct : MethodName := ⟨RX1, "readProduct", "(LStillYear$Tape;I)Z"⟩
abbrev cX1_readUnit : ByteArray := prog_3_method_11_code
def yX1_readUnit : MethodName := ⟨RX1, "readUnit", "(LStillYear$Tape;I)Z"⟩
abbrev cX1_readBracket : ByteArray := prog_3_method_12_code
def yX1_readBracket : MethodName := ⟨RX1, "readBracket", "(LStillYear$Tape;I)Z"⟩
abbrev cX1_readPair : ByteArray := prog_3_method_13_code
def yX1_readPair : MethodName := ⟨RX1, "readPair", "(LStillYear$Tape;II)Z"⟩
abbrev cX1_variableNamed : ByteArray := prog_3_method_14_code
def yX1_variableNamed : MethodName := ⟨RX1, "variableNamed", "(LStillYear$Tape;)I"⟩
abbrev cX1_add : ByteArray := prog_3_method_15_code
def yX1_add : MethodName := ⟨RX1, "add", "(I)Z"⟩
def RX2 : String := "StillYear$Moment"
def TX2 : u_T := fun k => match k with
  | 0 => ("StillYear$Moment", "scene", "LStillYear$Scene;", true)
  | 1 => ("StillYear$Moment", "past", "LStillYear$Moment;", true)
  | _ => ("StillYear$Moment", "works", "I", true)
def tyX2 : Nat → FieldType := fun k => match k with
  | 0 => .object "StillYear$Scene"
  | 1 => .object "StillYear$Moment"
  | _ => .int
abbrev wsX20 : List Cond := u_ws RX2 TX2 3
theorem nmX2 : ∀ a, a < 3 → ∀ b, b < 3 → a ≠ b → (TX2 a).2.1 ≠ (TX2 b).2.1 := by decide +kernel
theorem tyX2_ok : ∀ k, k < 3 → parseFieldDescriptor (TX2 k).2.2.1 = some (tyX2 k) := by decide +kernel
abbrev cX2_init : ByteArray := prog_4_method_1_code
def yX2_init : MethodName := ⟨RX2, "<init>", "(LStillYear$Scene;LStillYear$Moment;I)V"⟩
def RX3 : String := "StillYear$Packing"
def TX3 : u_T := fun k => match k with
  | 0 => ("StillYear$Packing", "studio", "LStillYear$Studio;", true)
  | 1 => ("StillYear$Packing", "laid", "[I", true)
  | 2 => ("StillYear$Packing", "way", "[I", true)
  | 3 => ("StillYear$Packing", "best", "[I", true)
  | _ => ("StillYear$Packing", "fewest", "I", false)
def tyX3 : Nat → FieldType := fun k => match k with
  | 0 => .object "StillYear$Studio"
  | 1 => .array .int
  | 2 => .array .int
  | 3 => .array .int
  | _ => .int
abbrev wsX30 : List Cond := u_ws RX3 TX3 5
theorem nmX3 : ∀ a, a < 5 → ∀ b, b < 5 → a ≠ b → (TX3 a).2.1 ≠ (TX3 b).2.1 := by decide +kernel
theorem tyX3_ok : ∀ k, k < 5 → parseFieldDescriptor (TX3 k).2.2.1 = some (tyX3 k) := by decide +kernel
abbrev cX3_init : ByteArray := prog_5_method_1_code
def yX3_init : MethodName := ⟨RX3, "<init>", "(LStillYear$Studio;)V"⟩
abbrev cX3_isFound : ByteArray := prog_5_method_2_code
def yX3_isFound : MethodName := ⟨RX3, "isFound", "()Z"⟩
abbrev cX3_search : ByteArray := prog_5_method_3_code
def yX3_search : MethodName := ⟨RX3, "search", "()V"⟩
abbrev cX3_lay : ByteArray := prog_5_method_4_code
def yX3_lay : MethodName := ⟨RX3, "lay", "(II)V"⟩
def RX4 : String := "StillYear$Places"
def TX4 : u_T := fun k => match k with
  | 0 => ("StillYear$Places", "marks", "[I", true)
  | 1 => ("StillYear$Places", "stillToCome", "[I", true)
  | 2 => ("StillYear$Places", "seats", "I", false)
  | _ => ("StillYear$Places", "sitters", "I", false)
def tyX4 : Nat → FieldType := fun k => match k with
  | 0 => .array .int
  | 1 => .array .int
  | 2 => .int
  | _ => .int
abbrev wsX40 : List Cond := u_ws RX4 TX4 4
theorem nmX4 : ∀ a, a < 4 → ∀ b, b < 4 → a ≠ b → (TX4 a).2.1 ≠ (TX4 b).2.1 := by decide +kernel
theorem tyX4_ok : ∀ k, k < 4 → parseFieldDescriptor (TX4 k).2.2.1 = some (tyX4 k) := by decide +kernel
abbrev cX4_init : ByteArray := prog_6_method_1_code
def yX4_init : MethodName := ⟨RX4, "<init>", "()V"⟩
abbrev cX4_weigh : ByteArray := prog_6_method_2_code
def yX4_weigh : MethodName := ⟨RX4, "weigh", "(LStillYear$Scene;LStillYear$Law;)V"⟩
abbrev cX4_mostFrom : ByteArray := prog_6_method_3_code
def yX4_mostFrom : MethodName := ⟨RX4, "mostFrom", "(II)I"⟩
abbrev cX4_togetherBy : ByteArray := prog_6_method_4_code
def yX4_togetherBy : MethodName := ⟨RX4, "togetherBy", "(III)I"⟩
abbrev cX4_together : ByteArray := prog_6_method_5_code
def yX4_together : MethodName := ⟨RX4, "together", "()I"⟩
abbrev cX4_seatOf : ByteArray := prog_6_method_6_code
def yX4_seatOf : MethodName := ⟨RX4, "seatOf", "(I)I"⟩
abbrev cX4_leastSeat : ByteArray := prog_6_method_7_code
def yX4_leastSeat : MethodName := ⟨RX4, "leastSeat", "(II)I"⟩
def RX5 : String := "StillYear$Scene"
def TX5 : u_T := fun k => match k with
  | 0 => ("StillYear$Scene", "studio", "LStillYear$Studio;", true)
  | 1 => ("StillYear$Scene", "light", "[I", true)
  | 2 => ("StillYear$Scene", "place", "[I", true)
  | 3 => ("StillYear$Scene", "still", "[I", true)
  | 4 => ("StillYear$Scene", "hunger", "[I", true)
  | 5 => ("StillYear$Scene", "plate", "[I", true)
  | 6 => ("StillYear$Scene", "day", "I", false)
  | _ => ("StillYear$Scene", "meals", "I", false)
def tyX5 : Nat → FieldType := fun k => match k with
  | 0 => .object "StillYear$Studio"
  | 1 => .array .int
  | 2 => .array .int
  | 3 => .array .int
  | 4 => .array .int
  | 5 => .array .int
  | 6 => .int
  | _ => .int
abbrev wsX50 : List Cond := u_ws RX5 TX5 8
theorem nmX5 : ∀ a, a < 8 → ∀ b, b < 8 → a ≠ b → (TX5 a).2.1 ≠ (TX5 b).2.1 := by decide +kernel
theorem tyX5_ok : ∀ k, k < 8 → parseFieldDescriptor (TX5 k).2.2.1 = some (tyX5 k) := by decide +kernel
abbrev cX5_init : ByteArray := prog_7_method_1_code
def yX5_init : MethodName := ⟨RX5, "<init>", "(LStillYear$Studio;)V"⟩
abbrev cX5_take : ByteArray := prog_7_method_2_code
def yX5_take : MethodName := ⟨RX5, "take", "(LStillYear$Scene;)V"⟩
abbrev cX5_letSit : ByteArray := prog_7_method_3_code
def yX5_letSit : MethodName := ⟨RX5, "letSit", "(II)Z"⟩
abbrev cX5_letRise : ByteArray := prog_7_method_4_code
def yX5_letRise : MethodName := ⟨RX5, "letRise", "(I)Z"⟩
abbrev cX5_giveMeal : ByteArray := prog_7_method_5_code
def yX5_giveMeal : MethodName := ⟨RX5, "giveMeal", "(I)Z"⟩
abbrev cX5_drawCurtain : ByteArray := prog_7_method_6_code
def yX5_drawCurtain : MethodName := ⟨RX5, "drawCurtain", "(II)Z"⟩
abbrev cX5_passDay : ByteArray := prog_7_method_7_code
def yX5_passDay : MethodName := ⟨RX5, "passDay", "(LStillYear$Law;)V"⟩
abbrev cX5_markOn : ByteArray := prog_7_method_8_code
def yX5_markOn : MethodName := ⟨RX5, "markOn", "(LStillYear$Law;IIII)I"⟩
abbrev cX5_markToday : ByteArray := prog_7_method_9_code
def yX5_markToday : MethodName := ⟨RX5, "markToday", "(LStillYear$Law;I)I"⟩
abbrev cX5_firstMark : ByteArray := prog_7_method_10_code
def yX5_firstMark : MethodName := ⟨RX5, "firstMark", "(LStillYear$Law;II)I"⟩
abbrev cX5_sits : ByteArray := prog_7_method_11_code
def yX5_sits : MethodName := ⟨RX5, "sits", "(I)Z"⟩
abbrev cX5_whoSits : ByteArray := prog_7_method_12_code
def yX5_whoSits : MethodName := ⟨RX5, "whoSits", "()I"⟩
abbrev cX5_whoIsOn : ByteArray := prog_7_method_13_code
def yX5_whoIsOn : MethodName := ⟨RX5, "whoIsOn", "(I)I"⟩
abbrev cX5_cellOf : ByteArray := prog_7_method_14_code
def yX5_cellOf : MethodName := ⟨RX5, "cellOf", "(II)I"⟩
abbrev cX5_amount : ByteArray := prog_7_method_15_code
def yX5_amount : MethodName := ⟨RX5, "amount", "(II)I"⟩
abbrev cX5_onSeat : ByteArray := prog_7_method_16_code
def yX5_onSeat : MethodName := ⟨RX5, "onSeat", "(I)I"⟩
abbrev cX5_onPlate : ByteArray := prog_7_method_17_code
def yX5_onPlate : MethodName := ⟨RX5, "onPlate", "()I"⟩
abbrev cX5_allOf : ByteArray := prog_7_method_18_code
def yX5_allOf : MethodName := ⟨RX5, "allOf", "(I)I"⟩
abbrev cX5_selvesOf : ByteArray := prog_7_method_19_code
def yX5_selvesOf : MethodName := ⟨RX5, "selvesOf", "(I)I"⟩
abbrev cX5_seenOn : ByteArray := prog_7_method_20_code
def yX5_seenOn : MethodName := ⟨RX5, "seenOn", "(I)I"⟩
abbrev cX5_whereSeen : ByteArray := prog_7_method_21_code
def yX5_whereSeen : MethodName := ⟨RX5, "whereSeen", "(I)I"⟩
abbrev cX5_unseen : ByteArray := prog_7_method_22_code
def yX5_unseen : MethodName := ⟨RX5, "unseen", "()I"⟩
def RX6 : String := "StillYear$Seed"
def TX6 : u_T := fun k => match k with
  | _ => ("StillYear$Seed", "value", "I", false)
def tyX6 : Nat → FieldType := fun k => match k with
  | _ => .int
abbrev wsX60 : List Cond := u_ws RX6 TX6 1
theorem nmX6 : ∀ a, a < 1 → ∀ b, b < 1 → a ≠ b → (TX6 a).2.1 ≠ (TX6 b).2.1 := by decide +kernel
theorem tyX6_ok : ∀ k, k < 1 → parseFieldDescriptor (TX6 k).2.2.1 = some (tyX6 k) := by decide +kernel
abbrev cX6_init : ByteArray := prog_8_method_1_code
def yX6_init : MethodName := ⟨RX6, "<init>", "(I)V"⟩
abbrev cX6_nextBelow : ByteArray := prog_8_method_2_code
def yX6_nextBelow : MethodName := ⟨RX6, "nextBelow", "(I)I"⟩
def RX7 : String := "StillYear$Studio"
def TX7 : u_T := fun k => match k with
  | 0 => ("StillYear$Studio", "light", "[I", true)
  | 1 => ("StillYear$Studio", "dark", "[I", true)
  | 2 => ("StillYear$Studio", "fast", "[I", true)
  | 3 => ("StillYear$Studio", "days", "[I", true)
  | 4 => ("StillYear$Studio", "seats", "I", false)
  | 5 => ("StillYear$Studio", "sitters", "I", false)
  | 6 => ("StillYear$Studio", "sittings", "I", false)
  | 7 => ("StillYear$Studio", "year", "I", false)
  | _ => ("StillYear$Studio", "meals", "I", false)
def tyX7 : Nat → FieldType := fun k => match k with
  | 0 => .array .int
  | 1 => .array .int
  | 2 => .array .int
  | 3 => .array .int
  | 4 => .int
  | 5 => .int
  | 6 => .int
  | 7 => .int
  | _ => .int
abbrev wsX70 : List Cond := u_ws RX7 TX7 9
theorem nmX7 : ∀ a, a < 9 → ∀ b, b < 9 → a ≠ b → (TX7 a).2.1 ≠ (TX7 b).2.1 := by decide +kernel
theorem tyX7_ok : ∀ k, k < 9 → parseFieldDescriptor (TX7 k).2.2.1 = some (tyX7 k) := by decide +kernel
abbrev cX7_init : ByteArray := prog_9_method_1_code
def yX7_init : MethodName := ⟨RX7, "<init>", "()V"⟩
abbrev cX7_read : ByteArray := prog_9_method_2_code
def yX7_read : MethodName := ⟨RX7, "read", "(LStillYear$Tape;)Z"⟩
abbrev cX7_readClause : ByteArray := prog_9_method_3_code
def yX7_readClause : MethodName := ⟨RX7, "readClause", "(LStillYear$Tape;I)Z"⟩
abbrev cX7_hasRoom : ByteArray := prog_9_method_4_code
def yX7_hasRoom : MethodName := ⟨RX7, "hasRoom", "(LStillYear$Tape;III)Z"⟩
abbrev cX7_readSeat : ByteArray := prog_9_method_5_code
def yX7_readSeat : MethodName := ⟨RX7, "readSeat", "(LStillYear$Tape;)Z"⟩
abbrev cX7_readSitter : ByteArray := prog_9_method_6_code
def yX7_readSitter : MethodName := ⟨RX7, "readSitter", "(LStillYear$Tape;)Z"⟩
abbrev cX7_readSitting : ByteArray := prog_9_method_7_code
def yX7_readSitting : MethodName := ⟨RX7, "readSitting", "(LStillYear$Tape;)Z"⟩
abbrev cX7_readYear : ByteArray := prog_9_method_8_code
def yX7_readYear : MethodName := ⟨RX7, "readYear", "(LStillYear$Tape;)Z"⟩
abbrev cX7_readFood : ByteArray := prog_9_method_9_code
def yX7_readFood : MethodName := ⟨RX7, "readFood", "(LStillYear$Tape;)Z"⟩
def RX8 : String := "StillYear$Tape"
def TX8 : u_T := fun k => match k with
  | 0 => ("StillYear$Tape", "bytes", "[I", true)
  | 1 => ("StillYear$Tape", "size", "I", false)
  | 2 => ("StillYear$Tape", "faultPlace", "I", false)
  | 3 => ("StillYear$Tape", "faultKind", "I", false)
  | 4 => ("StillYear$Tape", "end", "I", false)
  | 5 => ("StillYear$Tape", "at", "I", false)
  | _ => ("StillYear$Tape", "start", "I", false)
def tyX8 : Nat → FieldType := fun k => match k with
  | 0 => .array .int
  | 1 => .int
  | 2 => .int
  | 3 => .int
  | 4 => .int
  | 5 => .int
  | _ => .int
abbrev wsX80 : List Cond := u_ws RX8 TX8 7
theorem nmX8 : ∀ a, a < 7 → ∀ b, b < 7 → a ≠ b → (TX8 a).2.1 ≠ (TX8 b).2.1 := by decide +kernel
theorem tyX8_ok : ∀ k, k < 7 → parseFieldDescriptor (TX8 k).2.2.1 = some (tyX8 k) := by decide +kernel
abbrev cX8_init : ByteArray := prog_10_method_1_code
def yX8_init : MethodName := ⟨RX8, "<init>", "()V"⟩
abbrev cX8_hasRoom : ByteArray := prog_10_method_2_code
def yX8_hasRoom : MethodName := ⟨RX8, "hasRoom", "()Z"⟩
abbrev cX8_put : ByteArray := prog_10_method_3_code
def yX8_put : MethodName := ⟨RX8, "put", "(I)V"⟩
abbrev cX8_open : ByteArray := prog_10_method_4_code
def yX8_open : MethodName := ⟨RX8, "open", "(I)V"⟩
abbrev cX8_faultAnswer : ByteArray := prog_10_method_5_code
def yX8_faultAnswer : MethodName := ⟨RX8, "faultAnswer", "()I"⟩
abbrev cX8_peek : ByteArray := prog_10_method_6_code
def yX8_peek : MethodName := ⟨RX8, "peek", "()I"⟩
abbrev cX8_skip : ByteArray := prog_10_method_7_code
def yX8_skip : MethodName := ⟨RX8, "skip", "()V"⟩
abbrev cX8_sign : ByteArray := prog_10_method_8_code
def yX8_sign : MethodName := ⟨RX8, "sign", "(C)Z"⟩
abbrev cX8_readWord : ByteArray := prog_10_method_9_code
def yX8_readWord : MethodName := ⟨RX8, "readWord", "()Z"⟩
abbrev cX8_wordIs : ByteArray := prog_10_method_10_code
def yX8_wordIs : MethodName := ⟨RX8, "wordIs", "(Ljava/lang/String;)Z"⟩
abbrev cX8_readNumber : ByteArray := prog_10_method_11_code
def yX8_readNumber : MethodName := ⟨RX8, "readNumber", "(II)I"⟩
abbrev cX8_failHere : ByteArray := prog_10_method_12_code
def yX8_failHere : MethodName := ⟨RX8, "failHere", "()Z"⟩
abbrev cX8_failAtStart : ByteArray := prog_10_method_13_code
def yX8_failAtStart : MethodName := ⟨RX8, "failAtStart", "(I)Z"⟩
abbrev cX8_startHere : ByteArray := prog_10_method_14_code
def yX8_startHere : MethodName := ⟨RX8, "startHere", "()V"⟩
abbrev cX8_byteAt : ByteArray := prog_10_method_15_code
def yX8_byteAt : MethodName := ⟨RX8, "byteAt", "(I)I"⟩
abbrev cX8_isLetter : ByteArray := prog_10_method_16_code
def yX8_isLetter : MethodName := ⟨RX8, "isLetter", "(I)Z"⟩
abbrev cX8_isDigit : ByteArray := prog_10_method_17_code
def yX8_isDigit : MethodName := ⟨RX8, "isDigit", "(I)Z"⟩
def RX9 : String := "StillYear$Work"
def TX9 : u_T := fun k => match k with
  | 0 => ("StillYear$Work", "kinds", "[I", true)
  | 1 => ("StillYear$Work", "firsts", "[I", true)
  | 2 => ("StillYear$Work", "seconds", "[I", true)
  | 3 => ("StillYear$Work", "roundsLeft", "[I", true)
  | 4 => ("StillYear$Work", "openAgains", "[I", true)
  | 5 => ("StillYear$Work", "open", "I", false)
  | 6 => ("StillYear$Work", "length", "I", false)
  | 7 => ("StillYear$Work", "done", "I", false)
  | _ => ("StillYear$Work", "refused", "I", false)
def tyX9 : Nat → FieldType := fun k => match k with
  | 0 => .array .int
  | 1 => .array .int
  | 2 => .array .int
  | 3 => .array .int
  | 4 => .array .int
  | 5 => .int
  | 6 => .int
  | 7 => .int
  | _ => .int
abbrev wsX90 : List Cond := u_ws RX9 TX9 9
theorem nmX9 : ∀ a, a < 9 → ∀ b, b < 9 → a ≠ b → (TX9 a).2.1 ≠ (TX9 b).2.1 := by decide +kernel
theorem tyX9_ok : ∀ k, k < 9 → parseFieldDescriptor (TX9 k).2.2.1 = some (tyX9 k) := by decide +kernel
abbrev cX9_init : ByteArray := prog_11_method_1_code
def yX9_init : MethodName := ⟨RX9, "<init>", "()V"⟩
abbrev cX9_read : ByteArray := prog_11_method_2_code
def yX9_read : MethodName := ⟨RX9, "read", "(LStillYear$Tape;LStillYear$Studio;)Z"⟩
abbrev cX9_readStep : ByteArray := prog_11_method_3_code
def yX9_readStep : MethodName := ⟨RX9, "readStep", "(LStillYear$Tape;LStillYear$Studio;)Z"⟩
abbrev cX9_readNumbered : ByteArray := prog_11_method_4_code
def yX9_readNumbered : MethodName := ⟨RX9, "readNumbered", "(LStillYear$Tape;III)Z"⟩
abbrev cX9_readAgain : ByteArray := prog_11_method_5_code
def yX9_readAgain : MethodName := ⟨RX9, "readAgain", "(LStillYear$Tape;)Z"⟩
abbrev cX9_readEnd : ByteArray := prog_11_method_6_code
def yX9_readEnd : MethodName := ⟨RX9, "readEnd", "(LStillYear$Tape;)Z"⟩
abbrev cX9_add : ByteArray := prog_11_method_7_code
def yX9_add : MethodName := ⟨RX9, "add", "(III)Z"⟩
abbrev cX9_run : ByteArray := prog_11_method_8_code
def yX9_run : MethodName := ⟨RX9, "run", "(LStillYear$Scene;LStillYear$Law;)V"⟩
abbrev cX9_intoAgain : ByteArray := prog_11_method_9_code
def yX9_intoAgain : MethodName := ⟨RX9, "intoAgain", "(I)I"⟩
abbrev cX9_behindRound : ByteArray := prog_11_method_10_code
def yX9_behindRound : MethodName := ⟨RX9, "behindRound", "(I)I"⟩
abbrev cX9_tryStep : ByteArray := prog_11_method_11_code
def yX9_tryStep : MethodName := ⟨RX9, "tryStep", "(ILStillYear$Scene;LStillYear$Law;)Z"⟩
def RX10 : String := "StillYear"
def TX10 : u_T := fun k => match k with
  | 0 => ("StillYear", "tape", "LStillYear$Tape;", true)
  | 1 => ("StillYear", "seating", "LStillYear$Places;", true)
  | 2 => ("StillYear", "images", "[LStillYear$Moment;", true)
  | 3 => ("StillYear", "studio", "LStillYear$Studio;", false)
  | 4 => ("StillYear", "law", "LStillYear$Law;", false)
  | 5 => ("StillYear", "book", "LStillYear$Book;", false)
  | 6 => ("StillYear", "now", "LStillYear$Scene;", false)
  | 7 => ("StillYear", "trial", "LStillYear$Scene;", false)
  | 8 => ("StillYear", "past", "LStillYear$Moment;", false)
  | 9 => ("StillYear", "works", "I", false)
  | 10 => ("StillYear", "imageCount", "I", false)
  | 11 => ("StillYear", "refusedSteps", "I", false)
  | 12 => ("StillYear", "unknownElements", "I", false)
  | _ => ("StillYear", "badArguments", "I", false)
def tyX10 : Nat → FieldType := fun k => match k with
  | 0 => .object "StillYear$Tape"
  | 1 => .object "StillYear$Places"
  | 2 => .array (.object "StillYear$Moment")
  | 3 => .object "StillYear$Studio"
  | 4 => .object "StillYear$Law"
  | 5 => .object "StillYear$Book"
  | 6 => .object "StillYear$Scene"
  | 7 => .object "StillYear$Scene"
  | 8 => .object "StillYear$Moment"
  | 9 => .int
  | 10 => .int
  | 11 => .int
  | 12 => .int
  | _ => .int
abbrev wsX100 : List Cond := u_ws RX10 TX10 14
theorem nmX10 : ∀ a, a < 14 → ∀ b, b < 14 → a ≠ b → (TX10 a).2.1 ≠ (TX10 b).2.1 := by decide +kernel
theorem tyX10_ok : ∀ k, k < 14 → parseFieldDescriptor (TX10 k).2.2.1 = some (tyX10 k) := by decide +kernel
abbrev cX10_init : ByteArray := prog_1_method_1_code
def yX10_init : MethodName := ⟨RX10, "<init>", "()V"⟩
abbrev cX10_feed : ByteArray := prog_1_method_2_code
def yX10_feed : MethodName := ⟨RX10, "feed", "(IIIII)I"⟩
abbrev cX10_studio : ByteArray := prog_1_method_3_code
def yX10_studio : MethodName := ⟨RX10, "studio", "(I)I"⟩
abbrev cX10_law : ByteArray := prog_1_method_4_code
def yX10_law : MethodName := ⟨RX10, "law", "(I)I"⟩
abbrev cX10_work : ByteArray := prog_1_method_5_code
def yX10_work : MethodName := ⟨RX10, "work", "(I)I"⟩
abbrev cX10_book : ByteArray := prog_1_method_6_code
def yX10_book : MethodName := ⟨RX10, "book", "(I)I"⟩
abbrev cX10_fault : ByteArray := prog_1_method_7_code
def yX10_fault : MethodName := ⟨RX10, "fault", "()I"⟩
abbrev cX10_undo : ByteArray := prog_1_method_8_code
def yX10_undo : MethodName := ⟨RX10, "undo", "()I"⟩
abbrev cX10_image : ByteArray := prog_1_method_9_code
def yX10_image : MethodName := ⟨RX10, "image", "()I"⟩
abbrev cX10_restore : ByteArray := prog_1_method_10_code
def yX10_restore : MethodName := ⟨RX10, "restore", "()I"⟩
abbrev cX10_told : ByteArray := prog_1_method_11_code
def yX10_told : MethodName := ⟨RX10, "told", "(I)I"⟩
abbrev cX10_seat : ByteArray := prog_1_method_12_code
def yX10_seat : MethodName := ⟨RX10, "seat", "(II)I"⟩
abbrev cX10_sitter : ByteArray := prog_1_method_13_code
def yX10_sitter : MethodName := ⟨RX10, "sitter", "(II)I"⟩
abbrev cX10_plate : ByteArray := prog_1_method_14_code
def yX10_plate : MethodName := ⟨RX10, "plate", "(II)I"⟩
abbrev cX10_sitting : ByteArray := prog_1_method_15_code
def yX10_sitting : MethodName := ⟨RX10, "sitting", "(I)I"⟩
abbrev cX10_mark : ByteArray := prog_1_method_16_code
def yX10_mark : MethodName := ⟨RX10, "mark", "(I)I"⟩
abbrev cX10_would : ByteArray := prog_1_method_17_code
def yX10_would : MethodName := ⟨RX10, "would", "(IIIIIIII)I"⟩
abbrev cX10_share : ByteArray := prog_1_method_18_code
def yX10_share : MethodName := ⟨RX10, "share", "(III)I"⟩
abbrev cX10_ahead : ByteArray := prog_1_method_19_code
def yX10_ahead : MethodName := ⟨RX10, "ahead", "(II)I"⟩
abbrev cX10_when : ByteArray := prog_1_method_20_code
def yX10_when : MethodName := ⟨RX10, "when", "(I)I"⟩
abbrev cX10_meals : ByteArray := prog_1_method_21_code
def yX10_meals : MethodName := ⟨RX10, "meals", "(II)I"⟩
abbrev cX10_need : ByteArray := prog_1_method_22_code
def yX10_need : MethodName := ⟨RX10, "need", "(I)I"⟩
abbrev cX10_rising : ByteArray := prog_1_method_23_code
def yX10_rising : MethodName := ⟨RX10, "rising", "(I)I"⟩
abbrev cX10_gains : ByteArray := prog_1_method_24_code
def yX10_gains : MethodName := ⟨RX10, "gains", "(II)I"⟩
abbrev cX10_goings : ByteArray := prog_1_method_25_code
def yX10_goings : MethodName := ⟨RX10, "goings", "(II)I"⟩
abbrev cX10_bright : ByteArray := prog_1_method_26_code
def yX10_bright : MethodName := ⟨RX10, "bright", "(I)I"⟩
abbrev cX10_places : ByteArray := prog_1_method_27_code
def yX10_places : MethodName := ⟨RX10, "places", "()I"⟩
abbrev cX10_placed : ByteArray := prog_1_method_28_code
def yX10_placed : MethodName := ⟨RX10, "placed", "(I)I"⟩
abbrev cX10_packing : ByteArray := prog_1_method_29_code
def yX10_packing : MethodName := ⟨RX10, "packing", "()I"⟩
abbrev cX10_packed : ByteArray := prog_1_method_30_code
def yX10_packed : MethodName := ⟨RX10, "packed", "(I)I"⟩
abbrev cX10_well : ByteArray := prog_1_method_31_code
def yX10_well : MethodName := ⟨RX10, "well", "(III)J"⟩
abbrev cX10_getsUp : ByteArray := prog_1_method_32_code
def yX10_getsUp : MethodName := ⟨RX10, "getsUp", "(IIII)I"⟩
abbrev cX10_food : ByteArray := prog_1_method_33_code
def yX10_food : MethodName := ⟨RX10, "food", "(III)I"⟩
abbrev cX10_darkest : ByteArray := prog_1_method_34_code
def yX10_darkest : MethodName := ⟨RX10, "darkest", "(I)I"⟩
abbrev cX10_stillest : ByteArray := prog_1_method_35_code
def yX10_stillest : MethodName := ⟨RX10, "stillest", "(I)I"⟩
abbrev cX10_stains : ByteArray := prog_1_method_36_code
def yX10_stains : MethodName := ⟨RX10, "stains", "(I)I"⟩
abbrev cX10_hungriest : ByteArray := prog_1_method_37_code
def yX10_hungriest : MethodName := ⟨RX10, "hungriest", "(I)I"⟩
abbrev cX10_brightest : ByteArray := prog_1_method_38_code
def yX10_brightest : MethodName := ⟨RX10, "brightest", "(I)I"⟩
abbrev cX10_empty : ByteArray := prog_1_method_39_code
def yX10_empty : MethodName := ⟨RX10, "empty", "(I)I"⟩
abbrev cX10_absent : ByteArray := prog_1_method_40_code
def yX10_absent : MethodName := ⟨RX10, "absent", "()I"⟩
abbrev cX10_crowd : ByteArray := prog_1_method_41_code
def yX10_crowd : MethodName := ⟨RX10, "crowd", "(I)I"⟩
abbrev cX10_lead : ByteArray := prog_1_method_42_code
def yX10_lead : MethodName := ⟨RX10, "lead", "(I)I"⟩
abbrev cX10_season : ByteArray := prog_1_method_43_code
def yX10_season : MethodName := ⟨RX10, "season", "(IIII)I"⟩
abbrev cX10_span : ByteArray := prog_1_method_44_code
def yX10_span : MethodName := ⟨RX10, "span", "(IIIII)I"⟩
abbrev cX10_status : ByteArray := prog_1_method_45_code
def yX10_status : MethodName := ⟨RX10, "status", "(I)I"⟩
abbrev cX10_count : ByteArray := prog_1_method_46_code
def yX10_count : MethodName := ⟨RX10, "count", "(I)I"⟩
abbrev cX10_refuseArgument : ByteArray := prog_1_method_47_code
def yX10_refuseArgument : MethodName := ⟨RX10, "refuseArgument", "()I"⟩
abbrev cX10_refuseElement : ByteArray := prog_1_method_48_code
def yX10_refuseElement : MethodName := ⟨RX10, "refuseElement", "()I"⟩
abbrev cX10_needRange : ByteArray := prog_1_method_49_code
def yX10_needRange : MethodName := ⟨RX10, "needRange", "(III)V"⟩
abbrev cX10_needSeat : ByteArray := prog_1_method_50_code
def yX10_needSeat : MethodName := ⟨RX10, "needSeat", "(I)V"⟩
abbrev cX10_needSitter : ByteArray := prog_1_method_51_code
def yX10_needSitter : MethodName := ⟨RX10, "needSitter", "(I)V"⟩
abbrev cX10_needSitting : ByteArray := prog_1_method_52_code
def yX10_needSitting : MethodName := ⟨RX10, "needSitting", "(I)V"⟩
abbrev cX10_openText : ByteArray := prog_1_method_53_code
def yX10_openText : MethodName := ⟨RX10, "openText", "(II)V"⟩
abbrev cX10_begin : ByteArray := prog_1_method_54_code
def yX10_begin : MethodName := ⟨RX10, "begin", "(LStillYear$Studio;)V"⟩
abbrev cX10_momentNow : ByteArray := prog_1_method_55_code
def yX10_momentNow : MethodName := ⟨RX10, "momentNow", "()LStillYear$Moment;"⟩
abbrev cX10_goBack : ByteArray := prog_1_method_56_code
def yX10_goBack : MethodName := ⟨RX10, "goBack", "(LStillYear$Moment;)V"⟩
abbrev cX10_mealsFor : ByteArray := prog_1_method_57_code
def yX10_mealsFor : MethodName := ⟨RX10, "mealsFor", "(II)I"⟩
abbrev cX10_daysOn : ByteArray := prog_1_method_58_code
def yX10_daysOn : MethodName := ⟨RX10, "daysOn", "(II)I"⟩
abbrev cX10_choices : ByteArray := prog_1_method_59_code
def yX10_choices : MethodName := ⟨RX10, "choices", "(II)J"⟩
abbrev cX10_givenWithin : ByteArray := prog_1_method_60_code
def yX10_givenWithin : MethodName := ⟨RX10, "givenWithin", "(II)I"⟩
abbrev cX10_has : ByteArray := prog_1_method_61_code
def yX10_has : MethodName := ⟨RX10, "has", "(IIIII)I"⟩
abbrev cX10_rests : ByteArray := prog_1_method_62_code
def yX10_rests : MethodName := ⟨RX10, "rests", "(IIIII)Z"⟩
abbrev cX10_playSeason : ByteArray := prog_1_method_63_code
def yX10_playSeason : MethodName := ⟨RX10, "playSeason", "(III)V"⟩
abbrev cX10_playDrawnSteps : ByteArray := prog_1_method_64_code
def yX10_playDrawnSteps : MethodName := ⟨RX10, "playDrawnSteps", "(LStillYear$Seed;I)V"⟩
abbrev cX10_pick : ByteArray := prog_1_method_65_code
def yX10_pick : MethodName := ⟨RX10, "pick", "(III)I"⟩
abbrev cX10_hasBit : ByteArray := prog_1_method_66_code
def yX10_hasBit : MethodName := ⟨RX10, "hasBit", "(II)Z"⟩
abbrev cX10_greatestCommon : ByteArray := prog_1_method_67_code
def yX10_greatestCommon : MethodName := ⟨RX10, "greatestCommon", "(II)I"⟩
def RX11 : String := "StillYearModel"
def TX11 : u_T := fun k => match k with
  | 0 => ("StillYearModel", "thrown", "I", false)
  | 1 => ("StillYearModel", "refused", "[I", true)
  | 2 => ("StillYearModel", "taped", "I", false)
  | 3 => ("StillYearModel", "size", "I", false)
  | 4 => ("StillYearModel", "at", "I", false)
  | 5 => ("StillYearModel", "bad", "I", false)
  | 6 => ("StillYearModel", "badKind", "I", false)
  | 7 => ("StillYearModel", "opens", "I", false)
  | 8 => ("StillYearModel", "faultAt", "I", false)
  | 9 => ("StillYearModel", "tape", "[I", true)
  | 10 => ("StillYearModel", "newLight", "[I", true)
  | 11 => ("StillYearModel", "newDark", "[I", true)
  | 12 => ("StillYearModel", "newLasts", "[I", true)
  | 13 => ("StillYearModel", "newDays", "[I", true)
  | 14 => ("StillYearModel", "dark", "[I", true)
  | 15 => ("StillYearModel", "lasts", "[I", true)
  | 16 => ("StillYearModel", "days", "[I", true)
  | 17 => ("StillYearModel", "newSeats", "I", false)
  | 18 => ("StillYearModel", "newSitters", "I", false)
  | 19 => ("StillYearModel", "newSittings", "I", false)
  | 20 => ("StillYearModel", "newYear", "I", false)
  | 21 => ("StillYearModel", "newFood", "I", false)
  | 22 => ("StillYearModel", "seats", "I", false)
  | 23 => ("StillYearModel", "sitters", "I", false)
  | 24 => ("StillYearModel", "sittings", "I", false)
  | 25 => ("StillYearModel", "yearDays", "I", false)
  | 26 => ("StillYearModel", "newCode", "[I", true)
  | 27 => ("StillYearModel", "newOf", "[I", true)
  | 28 => ("StillYearModel", "code", "[I", true)
  | 29 => ("StillYearModel", "ofCode", "[I", true)
  | 30 => ("StillYearModel", "stack", "[I", true)
  | 31 => ("StillYearModel", "newCodes", "I", false)
  | 32 => ("StillYearModel", "codes", "I", false)
  | 33 => ("StillYearModel", "facts", "[I", true)
  | 34 => ("StillYearModel", "newStep", "[I", true)
  | 35 => ("StillYearModel", "step", "[I", true)
  | 36 => ("StillYearModel", "newSteps", "I", false)
  | 37 => ("StillYearModel", "works", "I", false)
  | 38 => ("StillYearModel", "refusedSteps", "I", false)
  | 39 => ("StillYearModel", "begun", "I", false)
  | 40 => ("StillYearModel", "done", "I", false)
  | 41 => ("StillYearModel", "refusedNow", "I", false)
  | 42 => ("StillYearModel", "now", "[I", true)
  | 43 => ("StillYearModel", "s", "[I", true)
  | 44 => ("StillYearModel", "past", "[I", true)
  | 45 => ("StillYearModel", "marks", "[I", true)
  | 46 => ("StillYearModel", "newBook", "[I", true)
  | 47 => ("StillYearModel", "book", "[I", true)
  | 48 => ("StillYearModel", "books", "I", false)
  | 49 => ("StillYearModel", "mostOn", "[I", true)
  | 50 => ("StillYearModel", "laidIn", "[I", true)
  | 51 => ("StillYearModel", "held", "[I", true)
  | 52 => ("StillYearModel", "seedNow", "I", false)
  | 53 => ("StillYearModel", "image", "[I", true)
  | _ => ("StillYearModel", "images", "I", false)
def tyX11 : Nat → FieldType := fun k => match k with
  | 0 => .int
  | 1 => .array .int
  | 2 => .int
  | 3 => .int
  | 4 => .int
  | 5 => .int
  | 6 => .int
  | 7 => .int
  | 8 => .int
  | 9 => .array .int
  | 10 => .array .int
  | 11 => .array .int
  | 12 => .array .int
  | 13 => .array .int
  | 14 => .array .int
  | 15 => .array .int
  | 16 => .array .int
  | 17 => .int
  | 18 => .int
  | 19 => .int
  | 20 => .int
  | 21 => .int
  | 22 => .int
  | 23 => .int
  | 24 => .int
  | 25 => .int
  | 26 => .array .int
  | 27 => .array .int
  | 28 => .array .int
  | 29 => .array .int
  | 30 => .array .int
  | 31 => .int
  | 32 => .int
  | 33 => .array .int
  | 34 => .array .int
  | 35 => .array .int
  | 36 => .int
  | 37 => .int
  | 38 => .int
  | 39 => .int
  | 40 => .int
  | 41 => .int
  | 42 => .array .int
  | 43 => .array .int
  | 44 => .array .int
  | 45 => .array .int
  | 46 => .array .int
  | 47 => .array .int
  | 48 => .int
  | 49 => .array .int
  | 50 => .array .int
  | 51 => .array .int
  | 52 => .int
  | 53 => .array .int
  | _ => .int
abbrev wsX110 : List Cond := u_ws RX11 TX11 55
theorem nmX11 : ∀ a, a < 55 → ∀ b, b < 55 → a ≠ b → (TX11 a).2.1 ≠ (TX11 b).2.1 := by decide +kernel
theorem tyX11_ok : ∀ k, k < 55 → parseFieldDescriptor (TX11 k).2.2.1 = some (tyX11 k) := by decide +kernel
abbrev cX11_thrown : ByteArray := prog_13_method_1_code
def yX11_thrown : MethodName := ⟨RX11, "thrown", "()I"⟩
abbrev cX11_may : ByteArray := prog_13_method_2_code
def yX11_may : MethodName := ⟨RX11, "may", "(ZII)Z"⟩
abbrev cX11_within : ByteArray := prog_13_method_3_code
def yX11_within : MethodName := ⟨RX11, "within", "(III)Z"⟩
abbrev cX11_init : ByteArray := prog_13_method_4_code
def yX11_init : MethodName := ⟨RX11, "<init>", "()V"⟩
abbrev cX11_feed : ByteArray := prog_13_method_5_code
def yX11_feed : MethodName := ⟨RX11, "feed", "(IIIII)I"⟩
abbrev cX11_fine : ByteArray := prog_13_method_6_code
def yX11_fine : MethodName := ⟨RX11, "fine", "()Z"⟩
abbrev cX11_wrong : ByteArray := prog_13_method_7_code
def yX11_wrong : MethodName := ⟨RX11, "wrong", "(II)V"⟩
abbrev cX11_here : ByteArray := prog_13_method_8_code
def yX11_here : MethodName := ⟨RX11, "here", "()I"⟩
abbrev cX11_isSmall : ByteArray := prog_13_method_9_code
def yX11_isSmall : MethodName := ⟨RX11, "isSmall", "(I)Z"⟩
abbrev cX11_isDigit : ByteArray := prog_13_method_10_code
def yX11_isDigit : MethodName := ⟨RX11, "isDigit", "(I)Z"⟩
abbrev cX11_word : ByteArray := prog_13_method_11_code
def yX11_word : MethodName := ⟨RX11, "word", "()I"⟩
abbrev cX11_of : ByteArray := prog_13_method_12_code
def yX11_of : MethodName := ⟨RX11, "of", "(Ljava/lang/String;)I"⟩
abbrev cX11_pass : ByteArray := prog_13_method_13_code
def yX11_pass : MethodName := ⟨RX11, "pass", "()V"⟩
abbrev cX11_readNumber : ByteArray := prog_13_method_14_code
def yX11_readNumber : MethodName := ⟨RX11, "readNumber", "(II)I"⟩
abbrev cX11_sign : ByteArray := prog_13_method_15_code
def yX11_sign : MethodName := ⟨RX11, "sign", "(I)V"⟩
abbrev cX11_isMore : ByteArray := prog_13_method_16_code
def yX11_isMore : MethodName := ⟨RX11, "isMore", "()Z"⟩
abbrev cX11_begins : ByteArray := prog_13_method_17_code
def yX11_begins : MethodName := ⟨RX11, "begins", "(I)V"⟩
abbrev cX11_result : ByteArray := prog_13_method_18_code
def yX11_result : MethodName := ⟨RX11, "result", "(I)I"⟩
abbrev cX11_fault : ByteArray := prog_13_method_19_code
def yX11_fault : MethodName := ⟨RX11, "fault", "()I"⟩
abbrev cX11_copies : ByteArray := prog_13_method_20_code
def yX11_copies : MethodName := ⟨RX11, "copies", "([I[II)V"⟩
abbrev cX11_clears : ByteArray := prog_13_method_21_code
def yX11_clears : MethodName := ⟨RX11, "clears", "()V"⟩
abbrev cX11_sets : ByteArray := prog_13_method_22_code
def yX11_sets : MethodName := ⟨RX11, "sets", "()V"⟩
abbrev cX11_isShort : ByteArray := prog_13_method_23_code
def yX11_isShort : MethodName := ⟨RX11, "isShort", "(I)Z"⟩
abbrev cX11_isFull : ByteArray := prog_13_method_24_code
def yX11_isFull : MethodName := ⟨RX11, "isFull", "(IZ)Z"⟩
abbrev cX11_readRow : ByteArray := prog_13_method_25_code
def yX11_readRow : MethodName := ⟨RX11, "readRow", "(IZ)V"⟩
abbrev cX11_studio : ByteArray := prog_13_method_26_code
def yX11_studio : MethodName := ⟨RX11, "studio", "(I)I"⟩
abbrev cX11_emit : ByteArray := prog_13_method_27_code
def yX11_emit : MethodName := ⟨RX11, "emit", "(II)V"⟩
abbrev cX11_opensOne : ByteArray := prog_13_method_28_code
def yX11_opensOne : MethodName := ⟨RX11, "opensOne", "(I)V"⟩
abbrev cX11_readSum : ByteArray := prog_13_method_29_code
def yX11_readSum : MethodName := ⟨RX11, "readSum", "()V"⟩
abbrev cX11_readProduct : ByteArray := prog_13_method_30_code
def yX11_readProduct : MethodName := ⟨RX11, "readProduct", "()V"⟩
abbrev cX11_readTwo : ByteArray := prog_13_method_31_code
def yX11_readTwo : MethodName := ⟨RX11, "readTwo", "(II)V"⟩
abbrev cX11_standsHere : ByteArray := prog_13_method_32_code
def yX11_standsHere : MethodName := ⟨RX11, "standsHere", "(Ljava/lang/String;)Z"⟩
abbrev cX11_factHere : ByteArray := prog_13_method_33_code
def yX11_factHere : MethodName := ⟨RX11, "factHere", "()I"⟩
abbrev cX11_readUnit : ByteArray := prog_13_method_34_code
def yX11_readUnit : MethodName := ⟨RX11, "readUnit", "()V"⟩
abbrev cX11_law : ByteArray := prog_13_method_35_code
def yX11_law : MethodName := ⟨RX11, "law", "(I)I"⟩
abbrev cX11_valueNow : ByteArray := prog_13_method_36_code
def yX11_valueNow : MethodName := ⟨RX11, "valueNow", "()I"⟩
abbrev cX11_both : ByteArray := prog_13_method_37_code
def yX11_both : MethodName := ⟨RX11, "both", "(III)I"⟩
abbrev cX11_markNow : ByteArray := prog_13_method_38_code
def yX11_markNow : MethodName := ⟨RX11, "markNow", "()I"⟩
abbrev cX11_tellsStep : ByteArray := prog_13_method_39_code
def yX11_tellsStep : MethodName := ⟨RX11, "tellsStep", "(III)V"⟩
abbrev cX11_readStep : ByteArray := prog_13_method_40_code
def yX11_readStep : MethodName := ⟨RX11, "readStep", "()V"⟩
abbrev cX11_work : ByteArray := prog_13_method_41_code
def yX11_work : MethodName := ⟨RX11, "work", "(I)I"⟩
abbrev cX11_goesSteps : ByteArray := prog_13_method_42_code
def yX11_goesSteps : MethodName := ⟨RX11, "goesSteps", "(II)V"⟩
abbrev cX11_take : ByteArray := prog_13_method_43_code
def yX11_take : MethodName := ⟨RX11, "take", "()V"⟩
abbrev cX11_markOf : ByteArray := prog_13_method_44_code
def yX11_markOf : MethodName := ⟨RX11, "markOf", "(IIIIIIII)I"⟩
abbrev cX11_sitsAll : ByteArray := prog_13_method_45_code
def yX11_sitsAll : MethodName := ⟨RX11, "sitsAll", "()I"⟩
abbrev cX11_ones : ByteArray := prog_13_method_46_code
def yX11_ones : MethodName := ⟨RX11, "ones", "(I)I"⟩
abbrev cX11_markBy : ByteArray := prog_13_method_47_code
def yX11_markBy : MethodName := ⟨RX11, "markBy", "(I)I"⟩
abbrev cX11_onSeat : ByteArray := prog_13_method_48_code
def yX11_onSeat : MethodName := ⟨RX11, "onSeat", "(I)I"⟩
abbrev cX11_rises : ByteArray := prog_13_method_49_code
def yX11_rises : MethodName := ⟨RX11, "rises", "(I)V"⟩
abbrev cX11_sits : ByteArray := prog_13_method_50_code
def yX11_sits : MethodName := ⟨RX11, "sits", "(II)Z"⟩
abbrev cX11_feeds : ByteArray := prog_13_method_51_code
def yX11_feeds : MethodName := ⟨RX11, "feeds", "(I)Z"⟩
abbrev cX11_goes : ByteArray := prog_13_method_52_code
def yX11_goes : MethodName := ⟨RX11, "goes", "(III)Z"⟩
abbrev cX11_passes : ByteArray := prog_13_method_53_code
def yX11_passes : MethodName := ⟨RX11, "passes", "()V"⟩
abbrev cX11_allOn : ByteArray := prog_13_method_54_code
def yX11_allOn : MethodName := ⟨RX11, "allOn", "(I)I"⟩
abbrev cX11_allOnPlate : ByteArray := prog_13_method_55_code
def yX11_allOnPlate : MethodName := ⟨RX11, "allOnPlate", "()I"⟩
abbrev cX11_seenOn : ByteArray := prog_13_method_56_code
def yX11_seenOn : MethodName := ⟨RX11, "seenOn", "(I)I"⟩
abbrev cX11_unseen : ByteArray := prog_13_method_57_code
def yX11_unseen : MethodName := ⟨RX11, "unseen", "()I"⟩
abbrev cX11_book : ByteArray := prog_13_method_58_code
def yX11_book : MethodName := ⟨RX11, "book", "(I)I"⟩
abbrev cX11_undo : ByteArray := prog_13_method_59_code
def yX11_undo : MethodName := ⟨RX11, "undo", "()I"⟩
abbrev cX11_told : ByteArray := prog_13_method_60_code
def yX11_told : MethodName := ⟨RX11, "told", "(I)I"⟩
abbrev cX11_isSeat : ByteArray := prog_13_method_61_code
def yX11_isSeat : MethodName := ⟨RX11, "isSeat", "(II)Z"⟩
abbrev cX11_isSitter : ByteArray := prog_13_method_62_code
def yX11_isSitter : MethodName := ⟨RX11, "isSitter", "(II)Z"⟩
abbrev cX11_seat : ByteArray := prog_13_method_63_code
def yX11_seat : MethodName := ⟨RX11, "seat", "(II)I"⟩
abbrev cX11_ofHim : ByteArray := prog_13_method_64_code
def yX11_ofHim : MethodName := ⟨RX11, "ofHim", "(II)I"⟩
abbrev cX11_sitter : ByteArray := prog_13_method_65_code
def yX11_sitter : MethodName := ⟨RX11, "sitter", "(II)I"⟩
abbrev cX11_plate : ByteArray := prog_13_method_66_code
def yX11_plate : MethodName := ⟨RX11, "plate", "(II)I"⟩
abbrev cX11_sitting : ByteArray := prog_13_method_67_code
def yX11_sitting : MethodName := ⟨RX11, "sitting", "(I)I"⟩
abbrev cX11_mark : ByteArray := prog_13_method_68_code
def yX11_mark : MethodName := ⟨RX11, "mark", "(I)I"⟩
abbrev cX11_would : ByteArray := prog_13_method_69_code
def yX11_would : MethodName := ⟨RX11, "would", "(IIIIIIII)I"⟩
abbrev cX11_least : ByteArray := prog_13_method_70_code
def yX11_least : MethodName := ⟨RX11, "least", "(JJI)J"⟩
abbrev cX11_share : ByteArray := prog_13_method_71_code
def yX11_share : MethodName := ⟨RX11, "share", "(III)I"⟩
abbrev cX11_ahead : ByteArray := prog_13_method_72_code
def yX11_ahead : MethodName := ⟨RX11, "ahead", "(II)I"⟩
abbrev cX11_when : ByteArray := prog_13_method_73_code
def yX11_when : MethodName := ⟨RX11, "when", "(I)I"⟩
abbrev cX11_meals : ByteArray := prog_13_method_74_code
def yX11_meals : MethodName := ⟨RX11, "meals", "(II)I"⟩
abbrev cX11_mealsOf : ByteArray := prog_13_method_75_code
def yX11_mealsOf : MethodName := ⟨RX11, "mealsOf", "(II)I"⟩
abbrev cX11_firstMark : ByteArray := prog_13_method_76_code
def yX11_firstMark : MethodName := ⟨RX11, "firstMark", "(II)I"⟩
abbrev cX11_among : ByteArray := prog_13_method_77_code
def yX11_among : MethodName := ⟨RX11, "among", "(II)J"⟩
abbrev cX11_goings : ByteArray := prog_13_method_78_code
def yX11_goings : MethodName := ⟨RX11, "goings", "(II)I"⟩
abbrev cX11_bright : ByteArray := prog_13_method_79_code
def yX11_bright : MethodName := ⟨RX11, "bright", "(I)I"⟩
abbrev cX11_layPlaces : ByteArray := prog_13_method_80_code
def yX11_layPlaces : MethodName := ⟨RX11, "layPlaces", "()V"⟩
abbrev cX11_places : ByteArray := prog_13_method_81_code
def yX11_places : MethodName := ⟨RX11, "places", "()I"⟩
abbrev cX11_placed : ByteArray := prog_13_method_82_code
def yX11_placed : MethodName := ⟨RX11, "placed", "(I)I"⟩
abbrev cX11_lays : ByteArray := prog_13_method_83_code
def yX11_lays : MethodName := ⟨RX11, "lays", "(II)Z"⟩
abbrev cX11_findPacking : ByteArray := prog_13_method_84_code
def yX11_findPacking : MethodName := ⟨RX11, "findPacking", "()I"⟩
abbrev cX11_packing : ByteArray := prog_13_method_85_code
def yX11_packing : MethodName := ⟨RX11, "packing", "()I"⟩
abbrev cX11_packed : ByteArray := prog_13_method_86_code
def yX11_packed : MethodName := ⟨RX11, "packed", "(I)I"⟩
abbrev cX11_well : ByteArray := prog_13_method_87_code
def yX11_well : MethodName := ⟨RX11, "well", "(III)J"⟩
abbrev cX11_hasBy : ByteArray := prog_13_method_88_code
def yX11_hasBy : MethodName := ⟨RX11, "hasBy", "(IIIII)I"⟩
abbrev cX11_getsUp : ByteArray := prog_13_method_89_code
def yX11_getsUp : MethodName := ⟨RX11, "getsUp", "(IIII)I"⟩
abbrev cX11_givenBy : ByteArray := prog_13_method_90_code
def yX11_givenBy : MethodName := ⟨RX11, "givenBy", "(II)I"⟩
abbrev cX11_food : ByteArray := prog_13_method_91_code
def yX11_food : MethodName := ⟨RX11, "food", "(III)I"⟩
abbrev cX11_darkest : ByteArray := prog_13_method_92_code
def yX11_darkest : MethodName := ⟨RX11, "darkest", "(I)I"⟩
abbrev cX11_stillest : ByteArray := prog_13_method_93_code
def yX11_stillest : MethodName := ⟨RX11, "stillest", "(I)I"⟩
abbrev cX11_stains : ByteArray := prog_13_method_94_code
def yX11_stains : MethodName := ⟨RX11, "stains", "(I)I"⟩
abbrev cX11_hungriest : ByteArray := prog_13_method_95_code
def yX11_hungriest : MethodName := ⟨RX11, "hungriest", "(I)I"⟩
abbrev cX11_brightest : ByteArray := prog_13_method_96_code
def yX11_brightest : MethodName := ⟨RX11, "brightest", "(I)I"⟩
abbrev cX11_empty : ByteArray := prog_13_method_97_code
def yX11_empty : MethodName := ⟨RX11, "empty", "(I)I"⟩
abbrev cX11_rising : ByteArray := prog_13_method_98_code
def yX11_rising : MethodName := ⟨RX11, "rising", "(I)I"⟩
abbrev cX11_gains : ByteArray := prog_13_method_99_code
def yX11_gains : MethodName := ⟨RX11, "gains", "(II)I"⟩
abbrev cX11_absent : ByteArray := prog_13_method_100_code
def yX11_absent : MethodName := ⟨RX11, "absent", "()I"⟩
abbrev cX11_crowd : ByteArray := prog_13_method_101_code
def yX11_crowd : MethodName := ⟨RX11, "crowd", "(I)I"⟩
abbrev cX11_need : ByteArray := prog_13_method_102_code
def yX11_need : MethodName := ⟨RX11, "need", "(I)I"⟩
abbrev cX11_lead : ByteArray := prog_13_method_103_code
def yX11_lead : MethodName := ⟨RX11, "lead", "(I)I"⟩
abbrev cX11_draws : ByteArray := prog_13_method_104_code
def yX11_draws : MethodName := ⟨RX11, "draws", "(I)I"⟩
abbrev cX11_seasonGoes : ByteArray := prog_13_method_105_code
def yX11_seasonGoes : MethodName := ⟨RX11, "seasonGoes", "(III)V"⟩
abbrev cX11_isSeason : ByteArray := prog_13_method_106_code
def yX11_isSeason : MethodName := ⟨RX11, "isSeason", "(II)Z"⟩
abbrev cX11_season : ByteArray := prog_13_method_107_code
def yX11_season : MethodName := ⟨RX11, "season", "(IIII)I"⟩
abbrev cX11_span : ByteArray := prog_13_method_108_code
def yX11_span : MethodName := ⟨RX11, "span", "(IIIII)I"⟩
abbrev cX11_keepsRow : ByteArray := prog_13_method_109_code
def yX11_keepsRow : MethodName := ⟨RX11, "keepsRow", "(I[IIZ)I"⟩
abbrev cX11_keepsAll : ByteArray := prog_13_method_110_code
def yX11_keepsAll : MethodName := ⟨RX11, "keepsAll", "(IZ)V"⟩
abbrev cX11_image : ByteArray := prog_13_method_111_code
def yX11_image : MethodName := ⟨RX11, "image", "()I"⟩
abbrev cX11_restore : ByteArray := prog_13_method_112_code
def yX11_restore : MethodName := ⟨RX11, "restore", "()I"⟩
abbrev cX11_status : ByteArray := prog_13_method_113_code
def yX11_status : MethodName := ⟨RX11, "status", "(I)I"⟩
abbrev cX11_count : ByteArray := prog_13_method_114_code
def yX11_count : MethodName := ⟨RX11, "count", "(I)I"⟩
def RJx145de : String := "java/io/Serializable"
def RJx9f9b0 : String := "java/lang/CharSequence"
def RJxb160c : String := "java/lang/Comparable"
def RJ6 : String := "java/lang/Integer"
abbrev cJ6_bitCount_0f7a4 : ByteArray := prog_19_method_49_code
def yJ6_bitCount_0f7a4 : MethodName := ⟨RJ6, "bitCount", "(I)I"⟩
def RJ9 : String := "java/lang/Math"
abbrev cJ9_max_7cf53 : ByteArray := prog_20_method_65_code
def yJ9_max_7cf53 : MethodName := ⟨RJ9, "max", "(II)I"⟩
abbrev cJ9_min_7cf53 : ByteArray := prog_20_method_69_code
def yJ9_min_7cf53 : MethodName := ⟨RJ9, "min", "(II)I"⟩
abbrev cJ9_min_f86c9 : ByteArray := prog_20_method_70_code
def yJ9_min_f86c9 : MethodName := ⟨RJ9, "min", "(JJ)J"⟩
def RJ0 : String := "java/lang/String"
abbrev cJ0_length_8abf5 : ByteArray := prog_22_method_54_code
def yJ0_length_8abf5 : MethodName := ⟨RJ0, "length", "()I"⟩
abbrev cJ0_charAt_5068e : ByteArray := prog_22_method_56_code
def yJ0_charAt_5068e : MethodName := ⟨RJ0, "charAt", "(I)C"⟩
abbrev cJ0_coder_7d493 : ByteArray := prog_22_method_152_code
def yJ0_coder_7d493 : MethodName := ⟨RJ0, "coder", "()B"⟩
abbrev cJ0_isLatin1_aae02 : ByteArray := prog_22_method_154_code
def yJ0_isLatin1_aae02 : MethodName := ⟨RJ0, "isLatin1", "()Z"⟩
abbrev cJ0_checkIndex_df160 : ByteArray := prog_22_method_155_code
def yJ0_checkIndex_df160 : MethodName := ⟨RJ0, "checkIndex", "(II)V"⟩
def RJ1 : String := "java/lang/StringLatin1"
abbrev cJ1_charAt_3b067 : ByteArray := prog_23_method_2_code
def yJ1_charAt_3b067 : MethodName := ⟨RJ1, "charAt", "([BI)C"⟩
def RJ2 : String := "java/lang/StringUTF16"
abbrev cJ2_getChar_3b067 : ByteArray := prog_24_method_5_code
def yJ2_getChar_3b067 : MethodName := ⟨RJ2, "getChar", "([BI)C"⟩
abbrev cJ2_length_9d52b : ByteArray := prog_24_method_6_code
def yJ2_length_9d52b : MethodName := ⟨RJ2, "length", "([B)I"⟩
abbrev cJ2_charAt_3b067 : ByteArray := prog_24_method_83_code
def yJ2_charAt_3b067 : MethodName := ⟨RJ2, "charAt", "([BI)C"⟩
abbrev cJ2_checkIndex_2214a : ByteArray := prog_24_method_91_code
def yJ2_checkIndex_2214a : MethodName := ⟨RJ2, "checkIndex", "(I[B)V"⟩
def RJ10 : String := "java/lang/System"
def RJxfd54e : String := "java/lang/constant/Constable"
def RJx3cf43 : String := "java/lang/constant/ConstantDesc"
def RJ7 : String := "java/util/Arrays"
abbrev cJ7_fill_53178 : ByteArray := prog_29_method_103_code
def yJ7_fill_53178 : MethodName := ⟨RJ7, "fill", "([II)V"⟩
def RJ3 : String := "jdk/internal/util/Preconditions"
abbrev cJ3_checkIndex_8e157 : ByteArray := prog_31_method_11_code
def yJ3_checkIndex_8e157 : MethodName := ⟨RJ3, "checkIndex", "(IILjava/util/function/BiFunction;)I"⟩
def RL : String := "StillYearLaw"
abbrev cL_studio : ByteArray := method_3_code
def yL_studio : MethodName := ⟨RL, "studio", "(LStillYear;I[J)I"⟩
abbrev cL_law : ByteArray := method_4_code
def yL_law : MethodName := ⟨RL, "law", "(LStillYear;I[J)I"⟩
abbrev cL_work : ByteArray := method_5_code
def yL_work : MethodName := ⟨RL, "work", "(LStillYear;I[J)I"⟩
abbrev cL_book : ByteArray := method_6_code
def yL_book : MethodName := ⟨RL, "book", "(LStillYear;I[J)I"⟩
abbrev cL_told : ByteArray := method_7_code
def yL_told : MethodName := ⟨RL, "told", "(LStillYear;I[J)I"⟩
abbrev cL_seat : ByteArray := method_8_code
def yL_seat : MethodName := ⟨RL, "seat", "(LStillYear;II[J)I"⟩
abbrev cL_sitter : ByteArray := method_9_code
def yL_sitter : MethodName := ⟨RL, "sitter", "(LStillYear;II[J)I"⟩
abbrev cL_plate : ByteArray := method_10_code
def yL_plate : MethodName := ⟨RL, "plate", "(LStillYear;II[J)I"⟩
abbrev cL_sitting : ByteArray := method_11_code
def yL_sitting : MethodName := ⟨RL, "sitting", "(LStillYear;I[J)I"⟩
abbrev cL_mark : ByteArray := method_12_code
def yL_mark : MethodName := ⟨RL, "mark", "(LStillYear;I[J)I"⟩
abbrev cL_would : ByteArray := method_13_code
def yL_would : MethodName := ⟨RL, "would", "(LStillYear;IIIIIIII[J)I"⟩
abbrev cL_share : ByteArray := method_14_code
def yL_share : MethodName := ⟨RL, "share", "(LStillYear;III[J)I"⟩
abbrev cL_ahead : ByteArray := method_15_code
def yL_ahead : MethodName := ⟨RL, "ahead", "(LStillYear;II[J)I"⟩
abbrev cL_when : ByteArray := method_16_code
def yL_when : MethodName := ⟨RL, "when", "(LStillYear;I[J)I"⟩
abbrev cL_meals : ByteArray := method_17_code
def yL_meals : MethodName := ⟨RL, "meals", "(LStillYear;II[J)I"⟩
abbrev cL_goings : ByteArray := method_18_code
def yL_goings : MethodName := ⟨RL, "goings", "(LStillYear;II[J)I"⟩
abbrev cL_bright : ByteArray := method_19_code
def yL_bright : MethodName := ⟨RL, "bright", "(LStillYear;I[J)I"⟩
abbrev cL_placed : ByteArray := method_20_code
def yL_placed : MethodName := ⟨RL, "placed", "(LStillYear;I[J)I"⟩
abbrev cL_packed : ByteArray := method_21_code
def yL_packed : MethodName := ⟨RL, "packed", "(LStillYear;I[J)I"⟩
abbrev cL_well : ByteArray := method_22_code
def yL_well : MethodName := ⟨RL, "well", "(LStillYear;III[J)I"⟩
abbrev cL_getsUp : ByteArray := method_23_code
def yL_getsUp : MethodName := ⟨RL, "getsUp", "(LStillYear;IIII[J)I"⟩
abbrev cL_food : ByteArray := method_24_code
def yL_food : MethodName := ⟨RL, "food", "(LStillYear;III[J)I"⟩
abbrev cL_darkest : ByteArray := method_25_code
def yL_darkest : MethodName := ⟨RL, "darkest", "(LStillYear;I[J)I"⟩
abbrev cL_stillest : ByteArray := method_26_code
def yL_stillest : MethodName := ⟨RL, "stillest", "(LStillYear;I[J)I"⟩
abbrev cL_stains : ByteArray := method_27_code
def yL_stains : MethodName := ⟨RL, "stains", "(LStillYear;I[J)I"⟩
abbrev cL_hungriest : ByteArray := method_28_code
def yL_hungriest : MethodName := ⟨RL, "hungriest", "(LStillYear;I[J)I"⟩
abbrev cL_brightest : ByteArray := method_29_code
def yL_brightest : MethodName := ⟨RL, "brightest", "(LStillYear;I[J)I"⟩
abbrev cL_empty : ByteArray := method_30_code
def yL_empty : MethodName := ⟨RL, "empty", "(LStillYear;I[J)I"⟩
abbrev cL_rising : ByteArray := method_31_code
def yL_rising : MethodName := ⟨RL, "rising", "(LStillYear;I[J)I"⟩
abbrev cL_gains : ByteArray := method_32_code
def yL_gains : MethodName := ⟨RL, "gains", "(LStillYear;II[J)I"⟩
abbrev cL_crowd : ByteArray := method_33_code
def yL_crowd : MethodName := ⟨RL, "crowd", "(LStillYear;I[J)I"⟩
abbrev cL_need : ByteArray := method_34_code
def yL_need : MethodName := ⟨RL, "need", "(LStillYear;I[J)I"⟩
abbrev cL_lead : ByteArray := method_35_code
def yL_lead : MethodName := ⟨RL, "lead", "(LStillYear;I[J)I"⟩
abbrev cL_season : ByteArray := method_36_code
def yL_season : MethodName := ⟨RL, "season", "(LStillYear;IIII[J)I"⟩
abbrev cL_span : ByteArray := method_37_code
def yL_span : MethodName := ⟨RL, "span", "(LStillYear;IIIII[J)I"⟩
abbrev cL_law_ : ByteArray := code
def yL_law_ : MethodName := ⟨RL, "law", "([I)Z"⟩
abbrev vwCl : List vw_C := [(RX0, TX0, 3), (RX1, TX1, 4), (RX2, TX2, 3), (RX3, TX3, 5), (RX4, TX4, 4), (RX5, TX5, 8), (RX6, TX6, 1), (RX7, TX7, 9), (RX8, TX8, 7), (RX9, TX9, 9), (RX10, TX10, 14), (RX11, TX11, 55)]
end
section
/-! A PURE MACHINE: the methods' bytecode, links resolved, over a heap of cells that are counted from 0. 'run' goes by fuel, 'den' is what it comes to. -/
abbrev pC : Type := (Nat × (Nat → Int32)) ⊕ (Nat × (Nat → Int64)) ⊕ (Nat × (Nat → Option Nat)) ⊕ (Nat × List Value) ⊕ (Nat × (Nat → Int32))
abbrev pH : Type := Nat → Option pC
abbrev pS : Type := Nat × Nat × pH
abbrev pO : Type := Option Value ⊕ (Nat × Nat)
abbrev pR : Type := Option (pO × pS)
/-- length, operation, a number, two places -/
abbrev pE : Type := Nat × Nat × Int × Nat × Nat
abbrev cI (n : Nat) (f : Nat → Int32) : pC := .inl (n, f)
abbrev cL (n : Nat) (f : Nat → Int64) : pC := .inr (.inl (n, f))
abbrev cQ (n : Nat) (f : Nat → Option Nat) : pC := .inr (.inr (.inl (n, f)))
abbrev cO (c : Nat) (fs : List Value) : pC := .inr (.inr (.inr (.inl (c, fs))))
abbrev cT (n : Nat) (f : Nat → Int32) : pC := .inr (.inr (.inr (.inr (n, f))))
abbrev mk0 : Value := .retAddr 0
def pSet (s : pS) (r : Nat) (c : pC) : pS := (s.1, s.2.1, fun j => if j = r then some c else s.2.2 j)
def pNew (s : pS) (c : pC) (k : Nat) : pS := (s.1 + 1, s.2.1 + k, fun j => if j = s.1 then some c else s.2.2 j)
def pEx (s : pS) : pS := (s.1 + 1, s.2.1 + 6, s.2.2)
def gO (s : pS) (q ci : Nat) : Option (List Value) := match s.2.2 q with
  | some (.inr (.inr (.inr (.inl (c, fs))))) => if c = ci then some fs else none
  | _ => none
def gFi (s : pS) (q ci k : Nat) : Option Int32 := match gO s q ci with
  | some fs => (match fs[k]? with | some (.int v) => some v | _ => none)
  | none => none
def gFr (s : pS) (q ci k : Nat) : Option Nat := match gO s q ci with
  | some fs => (match fs[k]? with | some (.ref v) => some v | _ => none)
  | none => none
def gFv (s : pS) (q ci k : Nat) : Option (Option Nat) := match gO s q ci with
  | some fs => (match fs[k]? with | some (.ref v) => some (some v) | some .null => some none | _ => none)
  | none => none
def pF (s : pS) (q ci k : Nat) (v : Value) : Option pS := match gO s q ci with
  | some fs => if k < fs.length then some (pSet s q (cO ci (fs.set k v))) else none
  | none => none
def gI (s : pS) (q : Nat) (i : Int32) : Option Int32 := match s.2.2 q with
  | some (.inl (n, f)) => if i < 0 ∨ n ≤ i.toNatClampNeg then none else some (f i.toNatClampNeg)
  | some (.inr (.inr (.inr (.inr (n, f))))) => if i < 0 ∨ n ≤ i.toNatClampNeg then none else some (f i.toNatClampNeg)
  | _ => none
def pI (s : pS) (q : Nat) (i x : Int32) : Option pS := match s.2.2 q with
  | some (.inl (n, f)) => if i < 0 ∨ n ≤ i.toNatClampNeg then none else some (pSet s q (cI n (upd f i.toNatClampNeg x)))
  | _ => none
def gL (s : pS) (q : Nat) (i : Int32) : Option Int64 := match s.2.2 q with
  | some (.inr (.inl (n, f))) => if i < 0 ∨ n ≤ i.toNatClampNeg then none else some (f i.toNatClampNeg)
  | _ => none
def pL (s : pS) (q : Nat) (i : Int32) (x : Int64) : Option pS := match s.2.2 q with
  | some (.inr (.inl (n, f))) => if i < 0 ∨ n ≤ i.toNatClampNeg then none else some (pSet s q (cL n (vp_updL f i.toNatClampNeg x)))
  | _ => none
def gQ (s : pS) (q : Nat) (i : Int32) : Option (Option Nat) := match s.2.2 q with
  | some (.inr (.inr (.inl (n, f)))) => if i < 0 ∨ n ≤ i.toNatClampNeg then none else some (f i.toNatClampNeg)
  | _ => none
/-- into an array of Moments (class 2) -/
def pQ (s : pS) (q : Nat) (i : Int32) (x : Option Nat) : Option pS := match s.2.2 q with
  | some (.inr (.inr (.inl (n, f)))) => if i < 0 ∨ n ≤ i.toNatClampNeg then none else
      (match x with
       | none => some (pSet s q (cQ n (va_up f i.toNatClampNeg none)))
       | some v => (match gO s v 2 with | some _ => some (pSet s q (cQ n (va_up f i.toNatClampNeg (some v)))) | none => none))
  | _ => none
def gN (s : pS) (q : Nat) : Option Int32 := match s.2.2 q with
  | some (.inl (n, _)) => some (Int32.ofNat n)
  | some (.inr (.inl (n, _))) => some (Int32.ofNat n)
  | some (.inr (.inr (.inl (n, _)))) => some (Int32.ofNat n)
  | some (.inr (.inr (.inr (.inr (n, _))))) => some (Int32.ofNat n)
  | _ => none
def pCp (s : pS) (q : Nat) (sp : Int32) (r : Nat) (dp n : Int32) : Option pS := match s.2.2 q, s.2.2 r with
  | some (.inl (n0, f)), some (.inl (n1, g)) => if sp < 0 ∨ dp < 0 ∨ n < 0 ∨ n0 < sp.toNatClampNeg + n.toNatClampNeg ∨ n1 < dp.toNatClampNeg + n.toNatClampNeg then none else some (pSet s r (cI n1 (va_cpy f g sp.toNatClampNeg dp.toNatClampNeg n.toNatClampNeg)))
  | _, _ => none
def pSB : Nat := 10000000
def sLen (T : List (List Int32)) (q : Nat) : Option Int32 := if q < pSB then none else match T[q - pSB]? with
  | some b => some (Int32.ofNat b.length)
  | none => none
def sAt (T : List (List Int32)) (q : Nat) (i : Int32) : Option Int32 := if q < pSB then none else match T[q - pSB]? with
  | some b => if i < 0 ∨ b.length ≤ i.toNatClampNeg then none else some (b.getD i.toNatClampNeg 0)
  | none => none
-- locals
def pClr (ls : List Value) (i : Nat) : List Value := match i with
  | 0 => ls
  | j + 1 => (match ls[j]? with | some (.long _) => ls.set j mk0 | _ => ls)
def pSt1 (ls : List Value) (i : Nat) (v : Value) : List Value := (pClr ls i).set i v
/-- b = 0: no long lies among the method's locals -/
def pSt (b : Nat) (ls : List Value) (i : Nat) (v : Value) : List Value := match b with
  | 0 => ls.set i v
  | _ => pSt1 ls i v
def pSt2 (ls : List Value) (i : Nat) (v : Value) : List Value := ((pClr ls i).set i v).set (i + 1) mk0
def entL : List Value → List Value
  | [] => []
  | .long v :: r => .long v :: mk0 :: entL r
  | v :: r => v :: entL r
def entN (n : Nat) (as : List Value) : List Value := entL as ++ List.replicate (n - (entL as).length) mk0
-- what an instruction takes
def tI (o : Option Value) (K : Int32 → pR) : pR := match o with
  | some (.int v) => K v
  | _ => none
def tJ (o : Option Value) (K : Int64 → pR) : pR := match o with
  | some (.long v) => K v
  | _ => none
def tA (o : Option Value) (K : Option Nat → pR) : pR := match o with
  | some (.ref v) => K (some v)
  | some .null => K none
  | _ => none
def kI (st : List Value) (K : Int32 → List Value → pR) : pR := match st with
  | .int x :: r => K x r
  | _ => none
def kII (st : List Value) (K : Int32 → Int32 → List Value → pR) : pR := match st with
  | .int y :: .int x :: r => K x y r
  | _ => none
def kJ (st : List Value) (K : Int64 → List Value → pR) : pR := match st with
  | .long x :: r => K x r
  | _ => none
def kJJ (st : List Value) (K : Int64 → Int64 → List Value → pR) : pR := match st with
  | .long y :: .long x :: r => K x y r
  | _ => none
def kA (st : List Value) (K : Nat → List Value → pR) : pR := match st with
  | .ref q :: r => K q r
  | _ => none
def kAn (st : List Value) (K : Option Nat → List Value → pR) : pR := match st with
  | .ref q :: r => K (some q) r
  | .null :: r => K none r
  | _ => none
def kIA (st : List Value) (K : Nat → Int32 → List Value → pR) : pR := match st with
  | .int i :: .ref q :: r => K q i r
  | _ => none
def kIIA (st : List Value) (K : Nat → Int32 → Int32 → List Value → pR) : pR := match st with
  | .int x :: .int i :: .ref q :: r => K q i x r
  | _ => none
def kJIA (st : List Value) (K : Nat → Int32 → Int64 → List Value → pR) : pR := match st with
  | .long x :: .int i :: .ref q :: r => K q i x r
  | _ => none
def kAIA (st : List Value) (K : Nat → Int32 → Option Nat → List Value → pR) : pR := match st with
  | .ref x :: .int i :: .ref q :: r => K q i (some x) r
  | .null :: .int i :: .ref q :: r => K q i none r
  | _ => none
def kV1 (st : List Value) (K : Value → List Value → pR) : pR := match st with
  | .int x :: r => K (.int x) r
  | .ref x :: r => K (.ref x) r
  | _ => none
def kSw (l : List (Int32 × Nat)) (d : Nat) (x : Int32) (K : Nat → pR) : pR := match l with
  | [] => K d
  | (c, t) :: r => if x = c then K t else kSw r d x K
/-- a call's end: nothing, an int, a long, a reference comes back; thrown: X -/
def kC0 (r : pR) (K : pS → pR) (X : Nat → Nat → pS → pR) : pR := match r with
  | some (.inl none, s) => K s
  | some (.inr (c, i), s) => X c i s
  | _ => none
def kC1 (r : pR) (K : Int32 → pS → pR) (X : Nat → Nat → pS → pR) : pR := match r with
  | some (.inl (some (.int x)), s) => K x s
  | some (.inr (c, i), s) => X c i s
  | _ => none
def kC2 (r : pR) (K : Int64 → pS → pR) (X : Nat → Nat → pS → pR) : pR := match r with
  | some (.inl (some (.long x)), s) => K x s
  | some (.inr (c, i), s) => X c i s
  | _ => none
def kC3 (r : pR) (K : Nat → pS → pR) (X : Nat → Nat → pS → pR) : pR := match r with
  | some (.inl (some (.ref x)), s) => K x s
  | some (.inr (c, i), s) => X c i s
  | _ => none
/-- a handler's row: from, up to, where it goes on, which exception -/
def hX (l : List (Nat × Nat × Nat × Nat)) (pc c : Nat) (K : Nat → pR) (D : pR) : pR := match l with
  | [] => D
  | (a, b, h, k) :: r => bif Nat.ble a pc && Nat.blt pc b then (if c = k then K h else hX r pc c K D) else hX r pc c K D
def oN (v : Option Nat) (a : pR) (F : Nat → pR) : pR := match v with
  | none => a
  | some w => F w
def xp (c i : Nat) (s : pS) : pR := some (.inr (c, i), s)
def ibin (b : Nat) (x y : Int32) : Int32 := match b with
  | 0 => x + y
  | 1 => x - y
  | 2 => x * y
  | 3 => x <<< (y &&& 31)
  | 4 => x >>> (y &&& 31)
  | 5 => (x.toUInt32 >>> (y.toUInt32 &&& Int32.toUInt32 31)).toInt32
  | 6 => x &&& y
  | 7 => x ||| y
  | _ => x ^^^ y
/-- room on the stack below a call's arguments -/
def stW (r : List Value) : Bool := Nat.ble ((r.map fun v => v.category).sum) 8
/-- an object of this kind -/
def isO (s : pS) (q c : Nat) : Bool := match s.2.2 q with
  | some (.inr (.inr (.inr (.inl (k, _))))) => Nat.beq k c
  | _ => false
def isJ (v : Value) : Bool := match v with
  | .long _ => true
  | .double _ => true
  | _ => false
end
section
/-! THE CODE as the pure machine reads it, by program (gen2.py) out of the printed decode rows. A method: rows of 16 bytes. -/
abbrev m_Bk_init : Nat := 0
def t_Bk_init : List (List (Nat × pE)) := [[(0, (1, 3, 0, 0, 0)), (1, (3, 58, 0, 0, 0)), (4, (1, 3, 0, 0, 0)), (5, (2, 0, 8, 0, 0)), (7, (2, 50, 0, 0, 0)), (9, (3, 42, 0, 0, 0)), (12, (1, 65, 0, 0, 0))]]
abbrev m_Bk_hasLine : Nat := 1
def t_Bk_hasLine : List (List (Nat × pE)) := [[(0, (1, 3, 0, 0, 0)), (1, (3, 38, 0, 0, 1)), (4, (1, 2, 0, 1, 0)), (5, (3, 56, 1, 158, 2)), (8, (1, 66, 0, 0, 0))]]
abbrev m_Bk_amountOn : Nat := 2
def t_Bk_amountOn : List (List (Nat × pE)) := [[(0, (1, 3, 0, 0, 0)), (1, (3, 39, 0, 0, 0)), (4, (1, 2, 0, 1, 0)), (5, (1, 43, 0, 0, 0)), (6, (1, 62, 0, 0, 0))]]
abbrev m_Bk_read : Nat := 3
def t_Bk_read : List (List (Nat × pE)) := [[(0, (1, 0, 0, 0, 0)), (1, (1, 5, 0, 3, 0)), (2, (1, 2, 0, 3, 0)), (3, (2, 0, 8, 0, 0)), (5, (3, 27, 0, 44, 0)), (8, (1, 3, 0, 1, 0)), (9, (3, 55, 1, 70, 1)), (12, (1, 0, (-1), 0, 0)), (13, (3, 24, 0, 18, 0))], [(16, (1, 0, 1, 0, 0)), (17, (1, 66, 0, 0, 0)), (18, (1, 3, 0, 0, 0)), (19, (1, 3, 0, 1, 0)), (20, (1, 2, 0, 2, 0)), (21, (3, 55, 1, 4, 3)), (24, (3, 29, 0, 36, 0)), (27, (1, 3, 0, 1, 0)), (28, (2, 0, 59, 0, 0)), (30, (3, 55, 1, 72, 2))], [(33, (3, 30, 0, 38, 0)), (36, (1, 0, 0, 0, 0)), (37, (1, 66, 0, 0, 0)), (38, (3, 8, 1, 3, 0)), (41, (3, 22, 0, 2, 0)), (44, (1, 0, 0, 0, 0)), (45, (1, 66, 0, 0, 0))]]
abbrev m_Bk_readLine : Nat := 4
def t_Bk_readLine : List (List (Nat × pE)) := [[(0, (1, 3, 0, 1, 0)), (1, (1, 0, 0, 0, 0)), (2, (1, 2, 0, 2, 0)), (3, (1, 0, 1, 0, 0)), (4, (1, 9, 0, 0, 1)), (5, (3, 55, 1, 75, 3)), (8, (1, 5, 0, 3, 0)), (9, (1, 2, 0, 3, 0)), (10, (1, 0, (-1), 0, 0)), (11, (3, 24, 0, 16, 0)), (14, (1, 0, 0, 0, 0)), (15, (1, 66, 0, 0, 0))], [(16, (1, 3, 0, 0, 0)), (17, (1, 2, 0, 3, 0)), (18, (3, 55, 1, 1, 2)), (21, (3, 29, 0, 30, 0)), (24, (1, 3, 0, 1, 0)), (25, (1, 0, 2, 0, 0)), (26, (3, 55, 1, 77, 2)), (29, (1, 66, 0, 0, 0)), (30, (1, 3, 0, 0, 0)), (31, (3, 38, 0, 0, 2))], [(34, (2, 0, 8, 0, 0)), (36, (3, 25, 0, 45, 0)), (39, (1, 3, 0, 1, 0)), (40, (1, 0, 3, 0, 0)), (41, (3, 55, 1, 77, 2)), (44, (1, 66, 0, 0, 0)), (45, (1, 3, 0, 1, 0)), (46, (1, 0, 0, 0, 0)), (47, (3, 0, 9999, 0, 0))], [(50, (3, 55, 1, 75, 3)), (53, (2, 5, 0, 4, 0)), (55, (2, 2, 0, 4, 0)), (57, (1, 0, (-1), 0, 0)), (58, (3, 24, 0, 63, 0)), (61, (1, 0, 0, 0, 0)), (62, (1, 66, 0, 0, 0)), (63, (1, 3, 0, 0, 0))], [(64, (3, 39, 0, 0, 0)), (67, (1, 2, 0, 3, 0)), (68, (2, 2, 0, 4, 0)), (70, (1, 44, 0, 0, 0)), (71, (1, 3, 0, 0, 0)), (72, (1, 18, 0, 0, 0)), (73, (3, 38, 0, 0, 1)), (76, (1, 0, 1, 0, 0)), (77, (1, 2, 0, 3, 0)), (78, (1, 9, 0, 0, 3)), (79, (1, 9, 0, 0, 7))], [(80, (3, 41, 0, 0, 1)), (83, (1, 3, 0, 0, 0)), (84, (1, 18, 0, 0, 0)), (85, (3, 38, 0, 0, 2)), (88, (1, 0, 1, 0, 0)), (89, (1, 9, 0, 0, 0)), (90, (3, 41, 0, 0, 2)), (93, (1, 0, 1, 0, 0)), (94, (1, 66, 0, 0, 0))]]
abbrev m_Lw_init : Nat := 5
def t_Lw_init : List (List (Nat × pE)) := [[(0, (1, 3, 0, 0, 0)), (1, (3, 58, 0, 0, 0)), (4, (1, 3, 0, 0, 0)), (5, (3, 0, 150, 0, 0)), (8, (2, 50, 0, 0, 0)), (10, (3, 42, 0, 1, 0)), (13, (1, 3, 0, 0, 0)), (14, (2, 0, 64, 0, 0))], [(16, (2, 50, 0, 0, 0)), (18, (3, 42, 0, 1, 1)), (21, (1, 3, 0, 0, 0)), (22, (2, 0, 8, 0, 0)), (24, (2, 50, 0, 0, 0)), (26, (3, 42, 0, 1, 2)), (29, (1, 3, 0, 0, 0)), (30, (3, 39, 0, 1, 0))], [(33, (1, 0, 0, 0, 0)), (34, (3, 0, 1000, 0, 0)), (37, (1, 44, 0, 0, 0)), (38, (1, 3, 0, 0, 0)), (39, (3, 39, 0, 1, 0)), (42, (1, 0, 1, 0, 0)), (43, (3, 0, 1001, 0, 0)), (46, (1, 44, 0, 0, 0)), (47, (1, 3, 0, 0, 0))], [(48, (3, 39, 0, 1, 0)), (51, (1, 0, 2, 0, 0)), (52, (3, 0, 1010, 0, 0)), (55, (1, 44, 0, 0, 0)), (56, (1, 3, 0, 0, 0)), (57, (1, 0, 3, 0, 0)), (58, (3, 41, 0, 1, 3)), (61, (1, 65, 0, 0, 0))]]
abbrev m_Lw_askPlace : Nat := 6
def t_Lw_askPlace : List (List (Nat × pE)) := [[(0, (1, 3, 0, 0, 0)), (1, (3, 39, 0, 1, 2)), (4, (1, 0, 0, 0, 0)), (5, (1, 2, 0, 1, 0)), (6, (1, 44, 0, 0, 0)), (7, (1, 3, 0, 0, 0)), (8, (3, 39, 0, 1, 2)), (11, (1, 0, 4, 0, 0)), (12, (1, 2, 0, 2, 0)), (13, (1, 44, 0, 0, 0)), (14, (1, 3, 0, 0, 0)), (15, (3, 39, 0, 1, 2))], [(18, (1, 0, 2, 0, 0)), (19, (1, 2, 0, 3, 0)), (20, (1, 44, 0, 0, 0)), (21, (1, 65, 0, 0, 0))]]
abbrev m_Lw_askPerson : Nat := 7
def t_Lw_askPerson : List (List (Nat × pE)) := [[(0, (1, 3, 0, 0, 0)), (1, (3, 39, 0, 1, 2)), (4, (1, 0, 5, 0, 0)), (5, (1, 2, 0, 1, 0)), (6, (1, 44, 0, 0, 0)), (7, (1, 3, 0, 0, 0)), (8, (3, 39, 0, 1, 2)), (11, (1, 0, 1, 0, 0)), (12, (1, 2, 0, 2, 0)), (13, (1, 44, 0, 0, 0)), (14, (1, 3, 0, 0, 0)), (15, (3, 39, 0, 1, 2))], [(18, (1, 0, 3, 0, 0)), (19, (1, 2, 0, 3, 0)), (20, (1, 44, 0, 0, 0)), (21, (1, 65, 0, 0, 0))]]
abbrev m_Lw_askTime : Nat := 8
def t_Lw_askTime : List (List (Nat × pE)) := [[(0, (1, 3, 0, 0, 0)), (1, (3, 39, 0, 1, 2)), (4, (2, 0, 6, 0, 0)), (6, (1, 2, 0, 1, 0)), (7, (1, 44, 0, 0, 0)), (8, (1, 3, 0, 0, 0)), (9, (3, 39, 0, 1, 2)), (12, (2, 0, 7, 0, 0)), (14, (1, 2, 0, 2, 0)), (15, (1, 44, 0, 0, 0))], [(16, (1, 65, 0, 0, 0))]]
abbrev m_Lw_result : Nat := 9
def t_Lw_result : List (List (Nat × pE)) := [[(0, (1, 0, 0, 0, 0)), (1, (1, 5, 0, 1, 0)), (2, (1, 0, 0, 0, 0)), (3, (1, 5, 0, 2, 0)), (4, (1, 2, 0, 2, 0)), (5, (1, 3, 0, 0, 0)), (6, (3, 38, 0, 1, 3)), (9, (3, 26, 0, 101, 0)), (12, (1, 2, 0, 2, 0)), (13, (1, 3, 0, 0, 0)), (14, (3, 39, 0, 1, 0))], [(17, (1, 49, 0, 0, 0)), (18, (3, 26, 0, 101, 0)), (21, (1, 3, 0, 0, 0)), (22, (3, 39, 0, 1, 0)), (25, (1, 2, 0, 2, 0)), (26, (1, 43, 0, 0, 0)), (27, (1, 5, 0, 3, 0)), (28, (1, 2, 0, 3, 0)), (29, (3, 0, 1008, 0, 0))], [(32, (3, 26, 0, 61, 0)), (35, (1, 2, 0, 1, 0)), (36, (1, 3, 0, 0, 0)), (37, (3, 39, 0, 1, 1)), (40, (1, 49, 0, 0, 0)), (41, (3, 26, 0, 95, 0)), (44, (1, 3, 0, 0, 0)), (45, (3, 39, 0, 1, 1))], [(48, (1, 2, 0, 1, 0)), (49, (1, 3, 0, 0, 0)), (50, (1, 2, 0, 3, 0)), (51, (3, 55, 1, 10, 2)), (54, (1, 44, 0, 0, 0)), (55, (3, 8, 1, 1, 0)), (58, (3, 22, 0, 95, 0)), (61, (1, 2, 0, 1, 0)), (62, (1, 0, 2, 0, 0)), (63, (3, 25, 0, 95, 0))], [(66, (3, 8, (-1), 1, 0)), (69, (1, 3, 0, 0, 0)), (70, (3, 39, 0, 1, 1)), (73, (1, 2, 0, 1, 0)), (74, (1, 0, 1, 0, 0)), (75, (1, 9, 0, 0, 1)), (76, (1, 2, 0, 3, 0)), (77, (1, 3, 0, 0, 0)), (78, (3, 39, 0, 1, 1))], [(81, (1, 2, 0, 1, 0)), (82, (1, 0, 1, 0, 0)), (83, (1, 9, 0, 0, 1)), (84, (1, 43, 0, 0, 0)), (85, (1, 3, 0, 0, 0)), (86, (3, 39, 0, 1, 1)), (89, (1, 2, 0, 1, 0)), (90, (1, 43, 0, 0, 0)), (91, (3, 56, 1, 11, 3)), (94, (1, 44, 0, 0, 0)), (95, (3, 8, 1, 2, 0))], [(98, (3, 22, 0, 4, 0)), (101, (1, 2, 0, 1, 0)), (102, (3, 30, 0, 109, 0)), (105, (1, 0, 0, 0, 0)), (106, (3, 22, 0, 126, 0)), (109, (1, 0, 0, 0, 0)), (110, (2, 0, 99, 0, 0))], [(112, (1, 3, 0, 0, 0)), (113, (3, 39, 0, 1, 1)), (116, (1, 2, 0, 1, 0)), (117, (1, 0, 1, 0, 0)), (118, (1, 9, 0, 0, 1)), (119, (1, 43, 0, 0, 0)), (120, (3, 69, 0, 0, 0)), (123, (3, 68, 0, 0, 0)), (126, (1, 62, 0, 0, 0))]]
abbrev m_Lw_valueOf : Nat := 10
def t_Lw_valueOf : List (List (Nat × pE)) := [[(0, (1, 2, 0, 1, 0)), (1, (3, 0, 1000, 0, 0)), (4, (1, 9, 0, 0, 1)), (5, (1, 5, 0, 2, 0)), (6, (1, 2, 0, 2, 0)), (7, (3, 31, 0, 28, 0)), (10, (1, 2, 0, 2, 0)), (11, (1, 3, 0, 0, 0)), (12, (3, 39, 0, 1, 2)), (15, (1, 49, 0, 0, 0))], [(16, (3, 26, 0, 28, 0)), (19, (1, 3, 0, 0, 0)), (20, (3, 39, 0, 1, 2)), (23, (1, 2, 0, 2, 0)), (24, (1, 43, 0, 0, 0)), (25, (3, 22, 0, 29, 0)), (28, (1, 2, 0, 1, 0)), (29, (1, 62, 0, 0, 0))]]
abbrev m_Lw_join : Nat := 11
def t_Lw_join : List (List (Nat × pE)) := [[(0, (1, 2, 0, 0, 0)), (1, (39, 37, 0, 0, 0))], [], [(40, (1, 2, 0, 1, 0)), (41, (1, 2, 0, 2, 0)), (42, (1, 9, 0, 0, 0)), (43, (1, 62, 0, 0, 0)), (44, (1, 2, 0, 1, 0)), (45, (1, 2, 0, 2, 0)), (46, (1, 9, 0, 0, 1)), (47, (1, 62, 0, 0, 0))], [(48, (1, 2, 0, 1, 0)), (49, (1, 2, 0, 2, 0)), (50, (1, 9, 0, 0, 2)), (51, (1, 62, 0, 0, 0)), (52, (1, 2, 0, 2, 0)), (53, (3, 30, 0, 60, 0)), (56, (1, 0, 0, 0, 0)), (57, (3, 22, 0, 63, 0)), (60, (1, 2, 0, 1, 0)), (61, (1, 2, 0, 2, 0)), (62, (1, 10, 0, 0, 0)), (63, (1, 62, 0, 0, 0))], [(64, (1, 2, 0, 2, 0)), (65, (3, 30, 0, 72, 0)), (68, (1, 0, 0, 0, 0)), (69, (3, 22, 0, 75, 0)), (72, (1, 2, 0, 1, 0)), (73, (1, 2, 0, 2, 0)), (74, (1, 11, 0, 0, 0)), (75, (1, 62, 0, 0, 0)), (76, (1, 2, 0, 1, 0)), (77, (1, 2, 0, 2, 0)), (78, (3, 69, 0, 0, 0))], [(81, (1, 62, 0, 0, 0)), (82, (1, 2, 0, 1, 0)), (83, (1, 2, 0, 2, 0)), (84, (3, 68, 0, 0, 0)), (87, (1, 62, 0, 0, 0))]]
abbrev m_Lw_read : Nat := 12
def t_Lw_read : List (List (Nat × pE)) := [[(0, (1, 3, 0, 0, 0)), (1, (1, 0, 0, 0, 0)), (2, (3, 41, 0, 1, 3)), (5, (1, 3, 0, 0, 0)), (6, (1, 3, 0, 1, 0)), (7, (1, 0, 0, 0, 0)), (8, (3, 55, 1, 13, 3)), (11, (3, 30, 0, 16, 0)), (14, (1, 0, 0, 0, 0)), (15, (1, 66, 0, 0, 0))], [(16, (1, 3, 0, 1, 0)), (17, (3, 55, 1, 70, 1)), (20, (1, 0, (-1), 0, 0)), (21, (3, 23, 0, 31, 0)), (24, (1, 3, 0, 1, 0)), (25, (3, 55, 1, 76, 1)), (28, (3, 29, 0, 35, 0)), (31, (1, 0, 1, 0, 0))], [(32, (3, 22, 0, 36, 0)), (35, (1, 0, 0, 0, 0)), (36, (1, 66, 0, 0, 0))]]
abbrev m_Lw_readSum : Nat := 13
def t_Lw_readSum : List (List (Nat × pE)) := [[(0, (1, 3, 0, 0, 0)), (1, (1, 3, 0, 1, 0)), (2, (1, 2, 0, 2, 0)), (3, (3, 55, 1, 14, 3)), (6, (3, 30, 0, 11, 0)), (9, (1, 0, 0, 0, 0)), (10, (1, 66, 0, 0, 0)), (11, (1, 0, 0, 0, 0)), (12, (1, 5, 0, 3, 0)), (13, (1, 2, 0, 3, 0)), (14, (3, 0, 150, 0, 0))], [(17, (3, 26, 0, 84, 0)), (20, (1, 3, 0, 1, 0)), (21, (3, 55, 1, 70, 1)), (24, (2, 5, 0, 4, 0)), (26, (2, 2, 0, 4, 0)), (28, (2, 0, 43, 0, 0)), (30, (3, 23, 0, 42, 0))], [(33, (2, 2, 0, 4, 0)), (35, (2, 0, 45, 0, 0)), (37, (3, 23, 0, 42, 0)), (40, (1, 0, 1, 0, 0)), (41, (1, 66, 0, 0, 0)), (42, (1, 3, 0, 1, 0)), (43, (3, 55, 0, 71, 1)), (46, (1, 3, 0, 0, 0)), (47, (1, 3, 0, 1, 0))], [(48, (1, 2, 0, 2, 0)), (49, (3, 55, 1, 14, 3)), (52, (3, 30, 0, 57, 0)), (55, (1, 0, 0, 0, 0)), (56, (1, 66, 0, 0, 0)), (57, (1, 3, 0, 0, 0)), (58, (2, 2, 0, 4, 0)), (60, (2, 0, 43, 0, 0)), (62, (3, 24, 0, 71, 0))], [(65, (3, 0, 1008, 0, 0)), (68, (3, 22, 0, 74, 0)), (71, (3, 0, 1009, 0, 0)), (74, (3, 55, 1, 19, 2)), (77, (1, 20, 0, 0, 0)), (78, (3, 8, 1, 3, 0))], [(81, (3, 22, 0, 13, 0)), (84, (1, 0, 1, 0, 0)), (85, (1, 66, 0, 0, 0))]]
abbrev m_Lw_readProduct : Nat := 14
def t_Lw_readProduct : List (List (Nat × pE)) := [[(0, (1, 3, 0, 0, 0)), (1, (1, 3, 0, 1, 0)), (2, (1, 2, 0, 2, 0)), (3, (3, 55, 1, 15, 3)), (6, (3, 30, 0, 11, 0)), (9, (1, 0, 0, 0, 0)), (10, (1, 66, 0, 0, 0)), (11, (1, 0, 0, 0, 0)), (12, (1, 5, 0, 3, 0)), (13, (1, 2, 0, 3, 0)), (14, (3, 0, 150, 0, 0))], [(17, (3, 26, 0, 104, 0)), (20, (1, 3, 0, 1, 0)), (21, (3, 55, 1, 70, 1)), (24, (2, 5, 0, 4, 0)), (26, (2, 2, 0, 4, 0)), (28, (2, 0, 42, 0, 0)), (30, (3, 23, 0, 49, 0))], [(33, (2, 2, 0, 4, 0)), (35, (2, 0, 47, 0, 0)), (37, (3, 23, 0, 49, 0)), (40, (2, 2, 0, 4, 0)), (42, (2, 0, 37, 0, 0)), (44, (3, 23, 0, 49, 0)), (47, (1, 0, 1, 0, 0))], [(48, (1, 66, 0, 0, 0)), (49, (1, 3, 0, 1, 0)), (50, (3, 55, 0, 71, 1)), (53, (1, 3, 0, 0, 0)), (54, (1, 3, 0, 1, 0)), (55, (1, 2, 0, 2, 0)), (56, (3, 55, 1, 15, 3)), (59, (3, 30, 0, 64, 0)), (62, (1, 0, 0, 0, 0)), (63, (1, 66, 0, 0, 0))], [(64, (1, 3, 0, 0, 0)), (65, (2, 2, 0, 4, 0)), (67, (2, 0, 42, 0, 0)), (69, (3, 24, 0, 78, 0)), (72, (3, 0, 1010, 0, 0)), (75, (3, 22, 0, 94, 0)), (78, (2, 2, 0, 4, 0))], [(80, (2, 0, 47, 0, 0)), (82, (3, 24, 0, 91, 0)), (85, (3, 0, 1011, 0, 0)), (88, (3, 22, 0, 94, 0)), (91, (3, 0, 1012, 0, 0)), (94, (3, 55, 1, 19, 2))], [(97, (1, 20, 0, 0, 0)), (98, (3, 8, 1, 3, 0)), (101, (3, 22, 0, 13, 0)), (104, (1, 0, 1, 0, 0)), (105, (1, 66, 0, 0, 0))]]
abbrev m_Lw_readUnit : Nat := 15
def t_Lw_readUnit : List (List (Nat × pE)) := [[(0, (1, 3, 0, 1, 0)), (1, (3, 55, 1, 70, 1)), (4, (1, 5, 0, 3, 0)), (5, (1, 2, 0, 3, 0)), (6, (3, 56, 1, 81, 1)), (9, (3, 29, 0, 43, 0)), (12, (1, 3, 0, 1, 0)), (13, (1, 0, 0, 0, 0)), (14, (3, 0, 999, 0, 0))], [(17, (3, 55, 1, 75, 3)), (20, (2, 5, 0, 4, 0)), (22, (2, 2, 0, 4, 0)), (24, (1, 0, (-1), 0, 0)), (25, (3, 23, 0, 41, 0)), (28, (1, 3, 0, 0, 0)), (29, (2, 2, 0, 4, 0)), (31, (3, 55, 1, 19, 2))], [(34, (3, 29, 0, 41, 0)), (37, (1, 0, 1, 0, 0)), (38, (3, 22, 0, 42, 0)), (41, (1, 0, 0, 0, 0)), (42, (1, 66, 0, 0, 0)), (43, (1, 2, 0, 3, 0)), (44, (2, 0, 40, 0, 0)), (46, (3, 24, 0, 56, 0))], [(49, (1, 3, 0, 0, 0)), (50, (1, 3, 0, 1, 0)), (51, (1, 2, 0, 2, 0)), (52, (3, 55, 1, 16, 3)), (55, (1, 66, 0, 0, 0)), (56, (1, 3, 0, 1, 0)), (57, (3, 55, 1, 73, 1)), (60, (3, 30, 0, 65, 0)), (63, (1, 0, 0, 0, 0))], [(64, (1, 66, 0, 0, 0)), (65, (1, 3, 0, 1, 0)), (66, (2, 67, 0, 5, 0)), (68, (3, 55, 1, 74, 2)), (71, (3, 29, 0, 84, 0)), (74, (1, 3, 0, 0, 0)), (75, (1, 3, 0, 1, 0)), (76, (1, 2, 0, 2, 0)), (77, (3, 0, 1013, 0, 0))], [(80, (3, 55, 1, 17, 4)), (83, (1, 66, 0, 0, 0)), (84, (1, 3, 0, 1, 0)), (85, (2, 67, 0, 6, 0)), (87, (3, 55, 1, 74, 2)), (90, (3, 29, 0, 103, 0)), (93, (1, 3, 0, 0, 0)), (94, (1, 3, 0, 1, 0)), (95, (1, 2, 0, 2, 0))], [(96, (3, 0, 1014, 0, 0)), (99, (3, 55, 1, 17, 4)), (102, (1, 66, 0, 0, 0)), (103, (1, 3, 0, 1, 0)), (104, (3, 56, 1, 18, 1)), (107, (2, 5, 0, 4, 0)), (109, (2, 2, 0, 4, 0)), (111, (1, 0, (-1), 0, 0))], [(112, (3, 24, 0, 123, 0)), (115, (1, 3, 0, 1, 0)), (116, (1, 0, 1, 0, 0)), (117, (3, 55, 1, 77, 2)), (120, (3, 22, 0, 133, 0)), (123, (1, 3, 0, 0, 0)), (124, (3, 0, 1000, 0, 0)), (127, (2, 2, 0, 4, 0))], [(129, (1, 9, 0, 0, 0)), (130, (3, 55, 1, 19, 2)), (133, (1, 66, 0, 0, 0))]]
abbrev m_Lw_readBracket : Nat := 16
def t_Lw_readBracket : List (List (Nat × pE)) := [[(0, (1, 2, 0, 2, 0)), (1, (2, 0, 6, 0, 0)), (3, (3, 25, 0, 16, 0)), (6, (1, 3, 0, 1, 0)), (7, (3, 55, 0, 78, 1)), (10, (1, 3, 0, 1, 0)), (11, (1, 0, 3, 0, 0)), (12, (3, 55, 1, 77, 2)), (15, (1, 66, 0, 0, 0))], [(16, (1, 3, 0, 1, 0)), (17, (3, 55, 0, 71, 1)), (20, (1, 3, 0, 0, 0)), (21, (1, 3, 0, 1, 0)), (22, (1, 2, 0, 2, 0)), (23, (1, 0, 1, 0, 0)), (24, (1, 9, 0, 0, 0)), (25, (3, 55, 1, 13, 3)), (28, (3, 29, 0, 44, 0)), (31, (1, 3, 0, 1, 0))], [(32, (2, 0, 41, 0, 0)), (34, (3, 55, 1, 72, 2)), (37, (3, 29, 0, 44, 0)), (40, (1, 0, 1, 0, 0)), (41, (3, 22, 0, 45, 0)), (44, (1, 0, 0, 0, 0)), (45, (1, 66, 0, 0, 0))]]
abbrev m_Lw_readPair : Nat := 17
def t_Lw_readPair : List (List (Nat × pE)) := [[(0, (1, 2, 0, 2, 0)), (1, (2, 0, 6, 0, 0)), (3, (3, 25, 0, 12, 0)), (6, (1, 3, 0, 1, 0)), (7, (1, 0, 3, 0, 0)), (8, (3, 55, 1, 77, 2)), (11, (1, 66, 0, 0, 0)), (12, (1, 3, 0, 1, 0)), (13, (2, 0, 91, 0, 0)), (15, (3, 55, 1, 72, 2))], [(18, (3, 29, 0, 73, 0)), (21, (1, 3, 0, 0, 0)), (22, (1, 3, 0, 1, 0)), (23, (1, 2, 0, 2, 0)), (24, (1, 0, 1, 0, 0)), (25, (1, 9, 0, 0, 0)), (26, (3, 55, 1, 13, 3)), (29, (3, 29, 0, 73, 0))], [(32, (1, 3, 0, 1, 0)), (33, (2, 0, 44, 0, 0)), (35, (3, 55, 1, 72, 2)), (38, (3, 29, 0, 73, 0)), (41, (1, 3, 0, 0, 0)), (42, (1, 3, 0, 1, 0)), (43, (1, 2, 0, 2, 0)), (44, (1, 0, 1, 0, 0)), (45, (1, 9, 0, 0, 0)), (46, (3, 55, 1, 13, 3))], [(49, (3, 29, 0, 73, 0)), (52, (1, 3, 0, 1, 0)), (53, (2, 0, 93, 0, 0)), (55, (3, 55, 1, 72, 2)), (58, (3, 29, 0, 73, 0)), (61, (1, 3, 0, 0, 0)), (62, (1, 2, 0, 3, 0)), (63, (3, 55, 1, 19, 2))], [(66, (3, 29, 0, 73, 0)), (69, (1, 0, 1, 0, 0)), (70, (3, 22, 0, 74, 0)), (73, (1, 0, 0, 0, 0)), (74, (1, 66, 0, 0, 0))]]
abbrev m_Lw_variableNamed : Nat := 18
def t_Lw_variableNamed : List (List (Nat × pE)) := [[(0, (1, 3, 0, 0, 0)), (1, (2, 67, 0, 7, 0)), (3, (3, 55, 1, 74, 2)), (6, (3, 29, 0, 13, 0)), (9, (1, 0, 0, 0, 0)), (10, (3, 22, 0, 107, 0)), (13, (1, 3, 0, 0, 0)), (14, (2, 67, 0, 8, 0))], [(16, (3, 55, 1, 74, 2)), (19, (3, 29, 0, 26, 0)), (22, (1, 0, 1, 0, 0)), (23, (3, 22, 0, 107, 0)), (26, (1, 3, 0, 0, 0)), (27, (2, 67, 0, 9, 0)), (29, (3, 55, 1, 74, 2))], [(32, (3, 29, 0, 39, 0)), (35, (1, 0, 2, 0, 0)), (36, (3, 22, 0, 107, 0)), (39, (1, 3, 0, 0, 0)), (40, (2, 67, 0, 10, 0)), (42, (3, 55, 1, 74, 2)), (45, (3, 29, 0, 52, 0))], [(48, (1, 0, 3, 0, 0)), (49, (3, 22, 0, 107, 0)), (52, (1, 3, 0, 0, 0)), (53, (2, 67, 0, 11, 0)), (55, (3, 55, 1, 74, 2)), (58, (3, 29, 0, 65, 0)), (61, (1, 0, 4, 0, 0)), (62, (3, 22, 0, 107, 0))], [(65, (1, 3, 0, 0, 0)), (66, (2, 67, 0, 12, 0)), (68, (3, 55, 1, 74, 2)), (71, (3, 29, 0, 78, 0)), (74, (1, 0, 5, 0, 0)), (75, (3, 22, 0, 107, 0)), (78, (1, 3, 0, 0, 0)), (79, (2, 67, 0, 13, 0))], [(81, (3, 55, 1, 74, 2)), (84, (3, 29, 0, 92, 0)), (87, (2, 0, 6, 0, 0)), (89, (3, 22, 0, 107, 0)), (92, (1, 3, 0, 0, 0)), (93, (2, 67, 0, 14, 0)), (95, (3, 55, 1, 74, 2))], [(98, (3, 29, 0, 106, 0)), (101, (2, 0, 7, 0, 0)), (103, (3, 22, 0, 107, 0)), (106, (1, 0, (-1), 0, 0)), (107, (1, 62, 0, 0, 0))]]
abbrev m_Lw_add : Nat := 19
def t_Lw_add : List (List (Nat × pE)) := [[(0, (1, 3, 0, 0, 0)), (1, (3, 38, 0, 1, 3)), (4, (1, 3, 0, 0, 0)), (5, (3, 39, 0, 1, 0)), (8, (1, 49, 0, 0, 0)), (9, (3, 26, 0, 32, 0)), (12, (1, 3, 0, 0, 0)), (13, (3, 39, 0, 1, 0))], [(16, (1, 3, 0, 0, 0)), (17, (3, 38, 0, 1, 3)), (20, (1, 2, 0, 1, 0)), (21, (1, 44, 0, 0, 0)), (22, (1, 3, 0, 0, 0)), (23, (1, 18, 0, 0, 0)), (24, (3, 38, 0, 1, 3)), (27, (1, 0, 1, 0, 0)), (28, (1, 9, 0, 0, 0)), (29, (3, 41, 0, 1, 3))], [(32, (1, 0, 1, 0, 0)), (33, (1, 66, 0, 0, 0))]]
abbrev m_Mo_init : Nat := 20
def t_Mo_init : List (List (Nat × pE)) := [[(0, (1, 3, 0, 0, 0)), (1, (3, 58, 0, 0, 0)), (4, (1, 3, 0, 0, 0)), (5, (1, 3, 0, 1, 0)), (6, (3, 42, 0, 2, 0)), (9, (1, 3, 0, 0, 0)), (10, (1, 3, 0, 2, 0)), (11, (3, 42, 0, 2, 1)), (14, (1, 3, 0, 0, 0)), (15, (1, 2, 0, 3, 0))], [(16, (3, 41, 0, 2, 2)), (19, (1, 65, 0, 0, 0))]]
abbrev m_Pk_init : Nat := 21
def t_Pk_init : List (List (Nat × pE)) := [[(0, (1, 3, 0, 0, 0)), (1, (3, 58, 0, 0, 0)), (4, (1, 3, 0, 0, 0)), (5, (2, 0, 8, 0, 0)), (7, (2, 50, 0, 0, 0)), (9, (3, 42, 0, 3, 1)), (12, (1, 3, 0, 0, 0)), (13, (2, 0, 8, 0, 0)), (15, (2, 50, 0, 0, 0))], [(17, (3, 42, 0, 3, 2)), (20, (1, 3, 0, 0, 0)), (21, (2, 0, 8, 0, 0)), (23, (2, 50, 0, 0, 0)), (25, (3, 42, 0, 3, 3)), (28, (1, 3, 0, 0, 0)), (29, (2, 0, 9, 0, 0)), (31, (3, 41, 0, 3, 4))], [(34, (1, 3, 0, 0, 0)), (35, (1, 3, 0, 1, 0)), (36, (3, 42, 0, 3, 0)), (39, (1, 65, 0, 0, 0))]]
abbrev m_Pk_isFound : Nat := 22
def t_Pk_isFound : List (List (Nat × pE)) := [[(0, (1, 3, 0, 0, 0)), (1, (3, 38, 0, 3, 4)), (4, (2, 0, 8, 0, 0)), (6, (3, 27, 0, 13, 0)), (9, (1, 0, 1, 0, 0)), (10, (3, 22, 0, 14, 0)), (13, (1, 0, 0, 0, 0)), (14, (1, 66, 0, 0, 0))]]
abbrev m_Pk_search : Nat := 23
def t_Pk_search : List (List (Nat × pE)) := [[(0, (1, 3, 0, 0, 0)), (1, (1, 0, 0, 0, 0)), (2, (1, 0, 0, 0, 0)), (3, (3, 55, 0, 24, 3)), (6, (1, 65, 0, 0, 0))]]
abbrev m_Pk_lay : Nat := 24
def t_Pk_lay : List (List (Nat × pE)) := [[(0, (1, 2, 0, 2, 0)), (1, (1, 3, 0, 0, 0)), (2, (3, 38, 0, 3, 4)), (5, (3, 25, 0, 9, 0)), (8, (1, 65, 0, 0, 0)), (9, (1, 2, 0, 1, 0)), (10, (1, 3, 0, 0, 0)), (11, (3, 39, 0, 3, 0)), (14, (3, 38, 0, 7, 6))], [(17, (3, 26, 0, 29, 0)), (20, (1, 2, 0, 1, 0)), (21, (1, 3, 0, 0, 0)), (22, (3, 39, 0, 3, 2)), (25, (1, 49, 0, 0, 0)), (26, (3, 25, 0, 53, 0)), (29, (1, 3, 0, 0, 0)), (30, (1, 2, 0, 2, 0)), (31, (3, 41, 0, 3, 4))], [(34, (1, 3, 0, 0, 0)), (35, (3, 39, 0, 3, 2)), (38, (1, 0, 0, 0, 0)), (39, (1, 3, 0, 0, 0)), (40, (3, 39, 0, 3, 3)), (43, (1, 0, 0, 0, 0)), (44, (1, 3, 0, 0, 0)), (45, (3, 39, 0, 3, 3))], [(48, (1, 49, 0, 0, 0)), (49, (3, 59, 0, 0, 0)), (52, (1, 65, 0, 0, 0)), (53, (1, 3, 0, 0, 0)), (54, (3, 39, 0, 3, 0)), (57, (3, 39, 0, 7, 3)), (60, (1, 2, 0, 1, 0)), (61, (1, 43, 0, 0, 0)), (62, (1, 5, 0, 3, 0)), (63, (1, 0, 0, 0, 0))], [(64, (2, 5, 0, 4, 0)), (66, (2, 2, 0, 4, 0)), (68, (1, 2, 0, 2, 0)), (69, (3, 27, 0, 152, 0)), (72, (2, 2, 0, 4, 0)), (74, (1, 3, 0, 0, 0)), (75, (3, 39, 0, 3, 1)), (78, (1, 49, 0, 0, 0)), (79, (3, 26, 0, 152, 0))], [(82, (1, 3, 0, 0, 0)), (83, (3, 39, 0, 3, 1)), (86, (2, 2, 0, 4, 0)), (88, (1, 43, 0, 0, 0)), (89, (1, 2, 0, 3, 0)), (90, (1, 9, 0, 0, 0)), (91, (1, 3, 0, 0, 0)), (92, (3, 39, 0, 3, 0)), (95, (3, 38, 0, 7, 7))], [(98, (3, 27, 0, 146, 0)), (101, (1, 3, 0, 0, 0)), (102, (3, 39, 0, 3, 1)), (105, (2, 2, 0, 4, 0)), (107, (1, 19, 0, 0, 0)), (108, (1, 43, 0, 0, 0)), (109, (1, 2, 0, 3, 0)), (110, (1, 9, 0, 0, 0)), (111, (1, 44, 0, 0, 0))], [(112, (1, 3, 0, 0, 0)), (113, (3, 39, 0, 3, 2)), (116, (1, 2, 0, 1, 0)), (117, (2, 2, 0, 4, 0)), (119, (1, 44, 0, 0, 0)), (120, (1, 3, 0, 0, 0)), (121, (1, 2, 0, 1, 0)), (122, (1, 0, 1, 0, 0)), (123, (1, 9, 0, 0, 0)), (124, (1, 2, 0, 2, 0)), (125, (2, 2, 0, 4, 0)), (127, (1, 0, 1, 0, 0))], [(128, (1, 9, 0, 0, 0)), (129, (3, 68, 0, 0, 0)), (132, (3, 55, 0, 24, 3)), (135, (1, 3, 0, 0, 0)), (136, (3, 39, 0, 3, 1)), (139, (2, 2, 0, 4, 0)), (141, (1, 19, 0, 0, 0)), (142, (1, 43, 0, 0, 0)), (143, (1, 2, 0, 3, 0))], [(144, (1, 9, 0, 0, 1)), (145, (1, 44, 0, 0, 0)), (146, (3, 8, 1, 4, 0)), (149, (3, 22, 0, 66, 0)), (152, (1, 65, 0, 0, 0))]]
abbrev m_Pl_init : Nat := 25
def t_Pl_init : List (List (Nat × pE)) := [[(0, (1, 3, 0, 0, 0)), (1, (3, 58, 0, 0, 0)), (4, (1, 3, 0, 0, 0)), (5, (2, 0, 48, 0, 0)), (7, (2, 50, 0, 0, 0)), (9, (3, 42, 0, 4, 0)), (12, (1, 3, 0, 0, 0)), (13, (3, 0, 256, 0, 0))], [(16, (2, 50, 0, 0, 0)), (18, (3, 42, 0, 4, 1)), (21, (1, 65, 0, 0, 0))]]
abbrev m_Pl_weigh : Nat := 26
def t_Pl_weigh : List (List (Nat × pE)) := [[(0, (1, 3, 0, 0, 0)), (1, (1, 3, 0, 1, 0)), (2, (3, 39, 1, 5, 0)), (5, (3, 38, 0, 7, 4)), (8, (3, 41, 0, 4, 2)), (11, (1, 3, 0, 0, 0)), (12, (1, 3, 0, 1, 0)), (13, (3, 39, 1, 5, 0))], [(16, (3, 38, 0, 7, 5)), (19, (3, 41, 0, 4, 3)), (22, (1, 0, 0, 0, 0)), (23, (1, 5, 0, 3, 0)), (24, (1, 2, 0, 3, 0)), (25, (1, 3, 0, 0, 0)), (26, (3, 38, 0, 4, 3)), (29, (3, 26, 0, 76, 0))], [(32, (1, 0, 0, 0, 0)), (33, (2, 5, 0, 4, 0)), (35, (2, 2, 0, 4, 0)), (37, (1, 3, 0, 0, 0)), (38, (3, 38, 0, 4, 2)), (41, (3, 26, 0, 70, 0)), (44, (1, 3, 0, 0, 0)), (45, (3, 39, 0, 4, 0))], [(48, (1, 2, 0, 3, 0)), (49, (2, 0, 8, 0, 0)), (51, (1, 9, 0, 0, 2)), (52, (2, 2, 0, 4, 0)), (54, (1, 9, 0, 0, 0)), (55, (1, 3, 0, 1, 0)), (56, (1, 3, 0, 2, 0)), (57, (1, 2, 0, 3, 0)), (58, (2, 2, 0, 4, 0)), (60, (3, 55, 1, 41, 4)), (63, (1, 44, 0, 0, 0))], [(64, (3, 8, 1, 4, 0)), (67, (3, 22, 0, 35, 0)), (70, (3, 8, 1, 3, 0)), (73, (3, 22, 0, 24, 0)), (76, (1, 0, 1, 0, 0)), (77, (1, 3, 0, 0, 0)), (78, (3, 38, 0, 4, 2))], [(81, (1, 9, 0, 0, 3)), (82, (1, 0, 1, 0, 0)), (83, (1, 9, 0, 0, 1)), (84, (1, 5, 0, 3, 0)), (85, (1, 2, 0, 3, 0)), (86, (3, 31, 0, 127, 0)), (89, (1, 2, 0, 3, 0)), (90, (3, 56, 1, 310, 1)), (93, (2, 5, 0, 4, 0)), (95, (1, 3, 0, 0, 0))], [(96, (3, 39, 0, 4, 1)), (99, (1, 2, 0, 3, 0)), (100, (2, 2, 0, 4, 0)), (102, (1, 3, 0, 0, 0)), (103, (3, 38, 0, 4, 3)), (106, (3, 26, 0, 119, 0)), (109, (1, 3, 0, 0, 0)), (110, (2, 2, 0, 4, 0))], [(112, (1, 2, 0, 3, 0)), (113, (3, 55, 1, 27, 3)), (116, (3, 22, 0, 120, 0)), (119, (1, 0, 0, 0, 0)), (120, (1, 44, 0, 0, 0)), (121, (3, 8, (-1), 3, 0)), (124, (3, 22, 0, 85, 0)), (127, (1, 65, 0, 0, 0))]]
abbrev m_Pl_mostFrom : Nat := 27
def t_Pl_mostFrom : List (List (Nat × pE)) := [[(0, (1, 0, 0, 0, 0)), (1, (1, 5, 0, 3, 0)), (2, (1, 0, 0, 0, 0)), (3, (2, 5, 0, 4, 0)), (5, (2, 2, 0, 4, 0)), (7, (1, 3, 0, 0, 0)), (8, (3, 38, 0, 4, 2)), (11, (3, 26, 0, 42, 0)), (14, (1, 2, 0, 2, 0)), (15, (2, 2, 0, 4, 0))], [(17, (3, 56, 1, 158, 2)), (20, (3, 30, 0, 36, 0)), (23, (1, 2, 0, 3, 0)), (24, (1, 3, 0, 0, 0)), (25, (1, 2, 0, 1, 0)), (26, (2, 2, 0, 4, 0)), (28, (1, 2, 0, 2, 0)), (29, (3, 55, 1, 28, 4))], [(32, (3, 68, 0, 0, 0)), (35, (1, 5, 0, 3, 0)), (36, (3, 8, 1, 4, 0)), (39, (3, 22, 0, 5, 0)), (42, (1, 2, 0, 3, 0)), (43, (1, 62, 0, 0, 0))]]
abbrev m_Pl_togetherBy : Nat := 28
def t_Pl_togetherBy : List (List (Nat × pE)) := [[(0, (1, 3, 0, 0, 0)), (1, (3, 39, 0, 4, 0)), (4, (1, 2, 0, 1, 0)), (5, (2, 0, 8, 0, 0)), (7, (1, 9, 0, 0, 2)), (8, (1, 2, 0, 2, 0)), (9, (1, 9, 0, 0, 0)), (10, (1, 43, 0, 0, 0)), (11, (1, 3, 0, 0, 0)), (12, (3, 39, 0, 4, 1)), (15, (1, 2, 0, 3, 0))], [(16, (1, 0, 1, 0, 0)), (17, (1, 2, 0, 2, 0)), (18, (1, 9, 0, 0, 3)), (19, (1, 9, 0, 0, 7)), (20, (1, 43, 0, 0, 0)), (21, (1, 9, 0, 0, 0)), (22, (1, 62, 0, 0, 0))]]
abbrev m_Pl_together : Nat := 29
def t_Pl_together : List (List (Nat × pE)) := [[(0, (1, 3, 0, 0, 0)), (1, (3, 39, 0, 4, 1)), (4, (1, 0, 0, 0, 0)), (5, (1, 43, 0, 0, 0)), (6, (1, 62, 0, 0, 0))]]
abbrev m_Pl_seatOf : Nat := 30
def t_Pl_seatOf : List (List (Nat × pE)) := [[(0, (1, 0, 0, 0, 0)), (1, (1, 5, 0, 2, 0)), (2, (1, 0, (-1), 0, 0)), (3, (1, 5, 0, 3, 0)), (4, (1, 0, 0, 0, 0)), (5, (2, 5, 0, 4, 0)), (7, (2, 2, 0, 4, 0)), (9, (1, 2, 0, 1, 0)), (10, (3, 27, 0, 49, 0)), (13, (2, 2, 0, 4, 0)), (15, (1, 3, 0, 0, 0))], [(16, (3, 38, 0, 4, 3)), (19, (3, 26, 0, 49, 0)), (22, (1, 3, 0, 0, 0)), (23, (2, 2, 0, 4, 0)), (25, (1, 2, 0, 2, 0)), (26, (3, 55, 1, 31, 3)), (29, (1, 5, 0, 3, 0)), (30, (1, 2, 0, 3, 0)), (31, (1, 0, (-1), 0, 0))], [(32, (3, 24, 0, 37, 0)), (35, (1, 0, (-1), 0, 0)), (36, (1, 62, 0, 0, 0)), (37, (1, 2, 0, 2, 0)), (38, (1, 0, 1, 0, 0)), (39, (1, 2, 0, 3, 0)), (40, (1, 9, 0, 0, 3)), (41, (1, 9, 0, 0, 7)), (42, (1, 5, 0, 2, 0)), (43, (3, 8, 1, 4, 0)), (46, (3, 22, 0, 7, 0))], [(49, (1, 2, 0, 3, 0)), (50, (1, 62, 0, 0, 0))]]
abbrev m_Pl_leastSeat : Nat := 31
def t_Pl_leastSeat : List (List (Nat × pE)) := [[(0, (1, 0, 0, 0, 0)), (1, (1, 5, 0, 3, 0)), (2, (1, 2, 0, 3, 0)), (3, (1, 3, 0, 0, 0)), (4, (3, 38, 0, 4, 2)), (7, (3, 26, 0, 42, 0)), (10, (1, 2, 0, 2, 0)), (11, (1, 2, 0, 3, 0)), (12, (3, 56, 1, 158, 2)), (15, (3, 30, 0, 36, 0))], [(18, (1, 3, 0, 0, 0)), (19, (1, 2, 0, 1, 0)), (20, (1, 2, 0, 3, 0)), (21, (1, 2, 0, 2, 0)), (22, (3, 55, 1, 28, 4)), (25, (1, 3, 0, 0, 0)), (26, (3, 39, 0, 4, 1)), (29, (1, 2, 0, 2, 0)), (30, (1, 43, 0, 0, 0)), (31, (3, 24, 0, 36, 0))], [(34, (1, 2, 0, 3, 0)), (35, (1, 62, 0, 0, 0)), (36, (3, 8, 1, 3, 0)), (39, (3, 22, 0, 2, 0)), (42, (1, 0, (-1), 0, 0)), (43, (1, 62, 0, 0, 0))]]
abbrev m_Sc_init : Nat := 32
def t_Sc_init : List (List (Nat × pE)) := [[(0, (1, 3, 0, 0, 0)), (1, (3, 58, 0, 0, 0)), (4, (1, 3, 0, 0, 0)), (5, (2, 0, 8, 0, 0)), (7, (2, 50, 0, 0, 0)), (9, (3, 42, 0, 5, 1)), (12, (1, 3, 0, 0, 0)), (13, (2, 0, 6, 0, 0)), (15, (2, 50, 0, 0, 0))], [(17, (3, 42, 0, 5, 2)), (20, (1, 3, 0, 0, 0)), (21, (2, 0, 6, 0, 0)), (23, (2, 50, 0, 0, 0)), (25, (3, 42, 0, 5, 3)), (28, (1, 3, 0, 0, 0)), (29, (2, 0, 6, 0, 0)), (31, (2, 50, 0, 0, 0))], [(33, (3, 42, 0, 5, 4)), (36, (1, 3, 0, 0, 0)), (37, (2, 0, 48, 0, 0)), (39, (2, 50, 0, 0, 0)), (41, (3, 42, 0, 5, 5)), (44, (1, 3, 0, 0, 0)), (45, (1, 3, 0, 1, 0)), (46, (3, 42, 0, 5, 0))], [(49, (1, 3, 0, 1, 0)), (50, (3, 39, 0, 7, 0)), (53, (1, 0, 0, 0, 0)), (54, (1, 3, 0, 0, 0)), (55, (3, 39, 0, 5, 1)), (58, (1, 0, 0, 0, 0)), (59, (2, 0, 8, 0, 0)), (61, (3, 59, 0, 0, 0))], [(64, (1, 3, 0, 0, 0)), (65, (3, 39, 0, 5, 2)), (68, (1, 0, (-1), 0, 0)), (69, (3, 56, 0, 311, 2)), (72, (1, 3, 0, 0, 0)), (73, (1, 3, 0, 1, 0)), (74, (3, 38, 0, 7, 8)), (77, (3, 41, 0, 5, 7))], [(80, (1, 65, 0, 0, 0))]]
abbrev m_Sc_take : Nat := 33
def t_Sc_take : List (List (Nat × pE)) := [[(0, (1, 3, 0, 1, 0)), (1, (3, 39, 0, 5, 1)), (4, (1, 0, 0, 0, 0)), (5, (1, 3, 0, 0, 0)), (6, (3, 39, 0, 5, 1)), (9, (1, 0, 0, 0, 0)), (10, (1, 3, 0, 0, 0)), (11, (3, 39, 0, 5, 1)), (14, (1, 49, 0, 0, 0)), (15, (3, 59, 0, 0, 0))], [(18, (1, 3, 0, 1, 0)), (19, (3, 39, 0, 5, 2)), (22, (1, 0, 0, 0, 0)), (23, (1, 3, 0, 0, 0)), (24, (3, 39, 0, 5, 2)), (27, (1, 0, 0, 0, 0)), (28, (1, 3, 0, 0, 0)), (29, (3, 39, 0, 5, 2))], [(32, (1, 49, 0, 0, 0)), (33, (3, 59, 0, 0, 0)), (36, (1, 3, 0, 1, 0)), (37, (3, 39, 0, 5, 3)), (40, (1, 0, 0, 0, 0)), (41, (1, 3, 0, 0, 0)), (42, (3, 39, 0, 5, 3)), (45, (1, 0, 0, 0, 0)), (46, (1, 3, 0, 0, 0)), (47, (3, 39, 0, 5, 3))], [(50, (1, 49, 0, 0, 0)), (51, (3, 59, 0, 0, 0)), (54, (1, 3, 0, 1, 0)), (55, (3, 39, 0, 5, 4)), (58, (1, 0, 0, 0, 0)), (59, (1, 3, 0, 0, 0)), (60, (3, 39, 0, 5, 4)), (63, (1, 0, 0, 0, 0))], [(64, (1, 3, 0, 0, 0)), (65, (3, 39, 0, 5, 4)), (68, (1, 49, 0, 0, 0)), (69, (3, 59, 0, 0, 0)), (72, (1, 3, 0, 1, 0)), (73, (3, 39, 0, 5, 5)), (76, (1, 0, 0, 0, 0)), (77, (1, 3, 0, 0, 0)), (78, (3, 39, 0, 5, 5))], [(81, (1, 0, 0, 0, 0)), (82, (1, 3, 0, 0, 0)), (83, (3, 39, 0, 5, 5)), (86, (1, 49, 0, 0, 0)), (87, (3, 59, 0, 0, 0)), (90, (1, 3, 0, 0, 0)), (91, (1, 3, 0, 1, 0)), (92, (3, 38, 0, 5, 6)), (95, (3, 41, 0, 5, 6))], [(98, (1, 3, 0, 0, 0)), (99, (1, 3, 0, 1, 0)), (100, (3, 38, 0, 5, 7)), (103, (3, 41, 0, 5, 7)), (106, (1, 65, 0, 0, 0))]]
abbrev m_Sc_letSit : Nat := 34
def t_Sc_letSit : List (List (Nat × pE)) := [[(0, (1, 3, 0, 0, 0)), (1, (1, 2, 0, 2, 0)), (2, (3, 55, 1, 44, 2)), (5, (1, 0, (-1), 0, 0)), (6, (3, 23, 0, 11, 0)), (9, (1, 0, 0, 0, 0)), (10, (1, 66, 0, 0, 0)), (11, (1, 3, 0, 0, 0)), (12, (3, 39, 0, 5, 2)), (15, (1, 2, 0, 1, 0))], [(16, (1, 2, 0, 2, 0)), (17, (1, 44, 0, 0, 0)), (18, (1, 3, 0, 0, 0)), (19, (3, 39, 0, 5, 3)), (22, (1, 2, 0, 1, 0)), (23, (1, 0, 0, 0, 0)), (24, (1, 44, 0, 0, 0)), (25, (1, 0, 1, 0, 0)), (26, (1, 66, 0, 0, 0))]]
abbrev m_Sc_letRise : Nat := 35
def t_Sc_letRise : List (List (Nat × pE)) := [[(0, (1, 3, 0, 0, 0)), (1, (1, 2, 0, 1, 0)), (2, (3, 55, 1, 42, 2)), (5, (3, 30, 0, 10, 0)), (8, (1, 0, 0, 0, 0)), (9, (1, 66, 0, 0, 0)), (10, (1, 3, 0, 0, 0)), (11, (3, 39, 0, 5, 2)), (14, (1, 2, 0, 1, 0)), (15, (1, 0, (-1), 0, 0))], [(16, (1, 44, 0, 0, 0)), (17, (1, 3, 0, 0, 0)), (18, (3, 39, 0, 5, 3)), (21, (1, 2, 0, 1, 0)), (22, (1, 0, 0, 0, 0)), (23, (1, 44, 0, 0, 0)), (24, (1, 0, 1, 0, 0)), (25, (1, 66, 0, 0, 0))]]
abbrev m_Sc_giveMeal : Nat := 36
def t_Sc_giveMeal : List (List (Nat × pE)) := [[(0, (1, 3, 0, 0, 0)), (1, (3, 39, 0, 5, 4)), (4, (1, 2, 0, 1, 0)), (5, (1, 43, 0, 0, 0)), (6, (3, 29, 0, 16, 0)), (9, (1, 3, 0, 0, 0)), (10, (3, 38, 0, 5, 7)), (13, (3, 30, 0, 18, 0))], [(16, (1, 0, 0, 0, 0)), (17, (1, 66, 0, 0, 0)), (18, (1, 3, 0, 0, 0)), (19, (3, 39, 0, 5, 4)), (22, (1, 2, 0, 1, 0)), (23, (1, 0, 0, 0, 0)), (24, (1, 44, 0, 0, 0)), (25, (1, 3, 0, 0, 0)), (26, (1, 18, 0, 0, 0)), (27, (3, 38, 0, 5, 7)), (30, (1, 0, 1, 0, 0)), (31, (1, 9, 0, 0, 1))], [(32, (3, 41, 0, 5, 7)), (35, (1, 0, 1, 0, 0)), (36, (1, 66, 0, 0, 0))]]
abbrev m_Sc_drawCurtain : Nat := 37
def t_Sc_drawCurtain : List (List (Nat × pE)) := [[(0, (1, 3, 0, 0, 0)), (1, (3, 39, 0, 5, 1)), (4, (1, 2, 0, 1, 0)), (5, (1, 43, 0, 0, 0)), (6, (1, 2, 0, 2, 0)), (7, (3, 24, 0, 12, 0)), (10, (1, 0, 0, 0, 0)), (11, (1, 66, 0, 0, 0)), (12, (1, 3, 0, 0, 0)), (13, (3, 39, 0, 5, 1))], [(16, (1, 2, 0, 1, 0)), (17, (1, 2, 0, 2, 0)), (18, (1, 44, 0, 0, 0)), (19, (1, 0, 1, 0, 0)), (20, (1, 66, 0, 0, 0))]]
abbrev m_Sc_passDay : Nat := 38
def t_Sc_passDay : List (List (Nat × pE)) := [[(0, (1, 3, 0, 0, 0)), (1, (3, 55, 1, 43, 1)), (4, (3, 56, 1, 310, 1)), (7, (1, 0, 1, 0, 0)), (8, (1, 9, 0, 0, 1)), (9, (1, 5, 0, 2, 0)), (10, (1, 0, 0, 0, 0)), (11, (1, 5, 0, 3, 0)), (12, (1, 2, 0, 3, 0)), (13, (1, 3, 0, 0, 0)), (14, (3, 39, 0, 5, 0))], [(17, (3, 38, 0, 7, 5)), (20, (3, 26, 0, 103, 0)), (23, (1, 3, 0, 0, 0)), (24, (1, 2, 0, 3, 0)), (25, (3, 55, 1, 42, 2)), (28, (3, 29, 0, 97, 0)), (31, (1, 3, 0, 0, 0))], [(32, (1, 3, 0, 1, 0)), (33, (1, 2, 0, 3, 0)), (34, (1, 3, 0, 0, 0)), (35, (3, 39, 0, 5, 2)), (38, (1, 2, 0, 3, 0)), (39, (1, 43, 0, 0, 0)), (40, (1, 3, 0, 0, 0)), (41, (3, 39, 0, 5, 3)), (44, (1, 2, 0, 3, 0)), (45, (1, 43, 0, 0, 0)), (46, (1, 2, 0, 2, 0)), (47, (3, 55, 1, 39, 6))], [(50, (2, 5, 0, 4, 0)), (52, (1, 3, 0, 0, 0)), (53, (3, 39, 0, 5, 2)), (56, (1, 2, 0, 3, 0)), (57, (1, 43, 0, 0, 0)), (58, (1, 2, 0, 3, 0)), (59, (3, 56, 1, 45, 2)), (62, (2, 5, 0, 5, 0))], [(64, (1, 3, 0, 0, 0)), (65, (3, 39, 0, 5, 5)), (68, (2, 2, 0, 5, 0)), (70, (3, 0, 9999, 0, 0)), (73, (1, 3, 0, 0, 0)), (74, (3, 39, 0, 5, 5)), (77, (2, 2, 0, 5, 0)), (79, (1, 43, 0, 0, 0))], [(80, (2, 2, 0, 4, 0)), (82, (1, 9, 0, 0, 0)), (83, (3, 69, 0, 0, 0)), (86, (1, 44, 0, 0, 0)), (87, (1, 3, 0, 0, 0)), (88, (3, 39, 0, 5, 3)), (91, (1, 2, 0, 3, 0)), (92, (1, 19, 0, 0, 0)), (93, (1, 43, 0, 0, 0)), (94, (1, 0, 1, 0, 0)), (95, (1, 9, 0, 0, 0))], [(96, (1, 44, 0, 0, 0)), (97, (3, 8, 1, 3, 0)), (100, (3, 22, 0, 12, 0)), (103, (1, 0, 0, 0, 0)), (104, (1, 5, 0, 3, 0)), (105, (1, 2, 0, 3, 0)), (106, (1, 3, 0, 0, 0)), (107, (3, 39, 0, 5, 0)), (110, (3, 38, 0, 7, 5))], [(113, (3, 26, 0, 165, 0)), (116, (1, 3, 0, 0, 0)), (117, (3, 39, 0, 5, 4)), (120, (1, 2, 0, 3, 0)), (121, (2, 0, 99, 0, 0)), (123, (1, 3, 0, 0, 0)), (124, (3, 39, 0, 5, 4)), (127, (1, 2, 0, 3, 0))], [(128, (1, 43, 0, 0, 0)), (129, (1, 0, 1, 0, 0)), (130, (1, 9, 0, 0, 0)), (131, (3, 69, 0, 0, 0)), (134, (1, 44, 0, 0, 0)), (135, (1, 3, 0, 0, 0)), (136, (3, 39, 0, 5, 4)), (139, (1, 2, 0, 3, 0)), (140, (1, 43, 0, 0, 0)), (141, (1, 3, 0, 0, 0)), (142, (3, 39, 0, 5, 0))], [(145, (3, 39, 0, 7, 2)), (148, (1, 2, 0, 3, 0)), (149, (1, 43, 0, 0, 0)), (150, (3, 28, 0, 159, 0)), (153, (1, 3, 0, 0, 0)), (154, (1, 2, 0, 3, 0)), (155, (3, 55, 1, 35, 2)), (158, (1, 20, 0, 0, 0)), (159, (3, 8, 1, 3, 0))], [(162, (3, 22, 0, 105, 0)), (165, (1, 3, 0, 0, 0)), (166, (1, 18, 0, 0, 0)), (167, (3, 38, 0, 5, 6)), (170, (1, 0, 1, 0, 0)), (171, (1, 9, 0, 0, 0)), (172, (3, 41, 0, 5, 6)), (175, (1, 65, 0, 0, 0))]]
abbrev m_Sc_markOn : Nat := 39
def t_Sc_markOn : List (List (Nat × pE)) := [[(0, (1, 3, 0, 1, 0)), (1, (1, 3, 0, 0, 0)), (2, (3, 39, 0, 5, 1)), (5, (1, 2, 0, 3, 0)), (6, (1, 43, 0, 0, 0)), (7, (1, 2, 0, 3, 0)), (8, (2, 2, 0, 4, 0)), (10, (3, 55, 0, 6, 4)), (13, (1, 3, 0, 1, 0)), (14, (1, 2, 0, 2, 0)), (15, (1, 3, 0, 0, 0))], [(16, (3, 39, 0, 5, 0)), (19, (3, 39, 0, 7, 1)), (22, (1, 2, 0, 2, 0)), (23, (1, 43, 0, 0, 0)), (24, (1, 3, 0, 0, 0)), (25, (3, 39, 0, 5, 4)), (28, (1, 2, 0, 2, 0)), (29, (1, 43, 0, 0, 0)), (30, (3, 55, 0, 7, 4))], [(33, (1, 3, 0, 1, 0)), (34, (2, 2, 0, 5, 0)), (36, (1, 3, 0, 0, 0)), (37, (3, 38, 0, 5, 6)), (40, (3, 55, 0, 8, 3)), (43, (1, 3, 0, 1, 0)), (44, (3, 55, 1, 9, 1)), (47, (1, 62, 0, 0, 0))]]
abbrev m_Sc_markToday : Nat := 40
def t_Sc_markToday : List (List (Nat × pE)) := [[(0, (1, 3, 0, 0, 0)), (1, (1, 2, 0, 2, 0)), (2, (3, 55, 1, 42, 2)), (5, (3, 30, 0, 10, 0)), (8, (1, 0, 0, 0, 0)), (9, (1, 62, 0, 0, 0)), (10, (1, 3, 0, 0, 0)), (11, (3, 55, 1, 43, 1)), (14, (3, 56, 1, 310, 1))], [(17, (1, 0, 1, 0, 0)), (18, (1, 9, 0, 0, 1)), (19, (1, 5, 0, 3, 0)), (20, (1, 3, 0, 0, 0)), (21, (1, 3, 0, 1, 0)), (22, (1, 2, 0, 2, 0)), (23, (1, 3, 0, 0, 0)), (24, (3, 39, 0, 5, 2)), (27, (1, 2, 0, 2, 0)), (28, (1, 43, 0, 0, 0)), (29, (1, 3, 0, 0, 0)), (30, (3, 39, 0, 5, 3))], [(33, (1, 2, 0, 2, 0)), (34, (1, 43, 0, 0, 0)), (35, (1, 2, 0, 3, 0)), (36, (3, 55, 1, 39, 6)), (39, (1, 62, 0, 0, 0))]]
abbrev m_Sc_firstMark : Nat := 41
def t_Sc_firstMark : List (List (Nat × pE)) := [[(0, (1, 3, 0, 1, 0)), (1, (1, 3, 0, 0, 0)), (2, (3, 39, 0, 5, 1)), (5, (1, 2, 0, 3, 0)), (6, (1, 43, 0, 0, 0)), (7, (1, 2, 0, 3, 0)), (8, (1, 0, 0, 0, 0)), (9, (3, 55, 0, 6, 4)), (12, (1, 3, 0, 1, 0)), (13, (1, 2, 0, 2, 0)), (14, (1, 3, 0, 0, 0)), (15, (3, 39, 0, 5, 0))], [(18, (3, 39, 0, 7, 1)), (21, (1, 2, 0, 2, 0)), (22, (1, 43, 0, 0, 0)), (23, (1, 0, 0, 0, 0)), (24, (3, 55, 0, 7, 4)), (27, (1, 3, 0, 1, 0)), (28, (1, 0, 0, 0, 0)), (29, (1, 0, 0, 0, 0)), (30, (3, 55, 0, 8, 3))], [(33, (1, 3, 0, 1, 0)), (34, (3, 55, 1, 9, 1)), (37, (1, 62, 0, 0, 0))]]
abbrev m_Sc_sits : Nat := 42
def t_Sc_sits : List (List (Nat × pE)) := [[(0, (1, 3, 0, 0, 0)), (1, (3, 39, 0, 5, 2)), (4, (1, 2, 0, 1, 0)), (5, (1, 43, 0, 0, 0)), (6, (1, 0, (-1), 0, 0)), (7, (3, 23, 0, 14, 0)), (10, (1, 0, 1, 0, 0)), (11, (3, 22, 0, 15, 0)), (14, (1, 0, 0, 0, 0)), (15, (1, 66, 0, 0, 0))]]
abbrev m_Sc_whoSits : Nat := 43
def t_Sc_whoSits : List (List (Nat × pE)) := [[(0, (1, 0, 0, 0, 0)), (1, (1, 5, 0, 1, 0)), (2, (1, 0, 0, 0, 0)), (3, (1, 5, 0, 2, 0)), (4, (1, 2, 0, 2, 0)), (5, (1, 3, 0, 0, 0)), (6, (3, 39, 0, 5, 0)), (9, (3, 38, 0, 7, 5)), (12, (3, 26, 0, 35, 0)), (15, (1, 3, 0, 0, 0))], [(16, (1, 2, 0, 2, 0)), (17, (3, 55, 1, 42, 2)), (20, (3, 29, 0, 29, 0)), (23, (1, 2, 0, 1, 0)), (24, (1, 0, 1, 0, 0)), (25, (1, 2, 0, 2, 0)), (26, (1, 9, 0, 0, 3)), (27, (1, 9, 0, 0, 7)), (28, (1, 5, 0, 1, 0)), (29, (3, 8, 1, 2, 0))], [(32, (3, 22, 0, 4, 0)), (35, (1, 2, 0, 1, 0)), (36, (1, 62, 0, 0, 0))]]
abbrev m_Sc_whoIsOn : Nat := 44
def t_Sc_whoIsOn : List (List (Nat × pE)) := [[(0, (1, 0, 0, 0, 0)), (1, (1, 5, 0, 2, 0)), (2, (1, 2, 0, 2, 0)), (3, (1, 3, 0, 0, 0)), (4, (3, 39, 0, 5, 0)), (7, (3, 38, 0, 7, 5)), (10, (3, 26, 0, 31, 0)), (13, (1, 3, 0, 0, 0)), (14, (3, 39, 0, 5, 2))], [(17, (1, 2, 0, 2, 0)), (18, (1, 43, 0, 0, 0)), (19, (1, 2, 0, 1, 0)), (20, (3, 24, 0, 25, 0)), (23, (1, 2, 0, 2, 0)), (24, (1, 62, 0, 0, 0)), (25, (3, 8, 1, 2, 0)), (28, (3, 22, 0, 2, 0)), (31, (1, 0, (-1), 0, 0))], [(32, (1, 62, 0, 0, 0))]]
abbrev m_Sc_cellOf : Nat := 45
def t_Sc_cellOf : List (List (Nat × pE)) := [[(0, (1, 2, 0, 0, 0)), (1, (2, 0, 6, 0, 0)), (3, (1, 9, 0, 0, 2)), (4, (1, 2, 0, 1, 0)), (5, (1, 9, 0, 0, 0)), (6, (1, 62, 0, 0, 0))]]
abbrev m_Sc_amount : Nat := 46
def t_Sc_amount : List (List (Nat × pE)) := [[(0, (1, 3, 0, 0, 0)), (1, (3, 39, 0, 5, 5)), (4, (1, 2, 0, 1, 0)), (5, (1, 2, 0, 2, 0)), (6, (3, 56, 1, 45, 2)), (9, (1, 43, 0, 0, 0)), (10, (1, 62, 0, 0, 0))]]
abbrev m_Sc_onSeat : Nat := 47
def t_Sc_onSeat : List (List (Nat × pE)) := [[(0, (1, 0, 0, 0, 0)), (1, (1, 5, 0, 2, 0)), (2, (1, 0, 0, 0, 0)), (3, (1, 5, 0, 3, 0)), (4, (1, 2, 0, 3, 0)), (5, (1, 3, 0, 0, 0)), (6, (3, 39, 0, 5, 0)), (9, (3, 38, 0, 7, 5)), (12, (3, 26, 0, 30, 0)), (15, (1, 2, 0, 2, 0))], [(16, (1, 3, 0, 0, 0)), (17, (1, 2, 0, 1, 0)), (18, (1, 2, 0, 3, 0)), (19, (3, 55, 1, 46, 3)), (22, (1, 9, 0, 0, 0)), (23, (1, 5, 0, 2, 0)), (24, (3, 8, 1, 3, 0)), (27, (3, 22, 0, 4, 0)), (30, (1, 2, 0, 2, 0)), (31, (1, 62, 0, 0, 0))]]
abbrev m_Sc_onPlate : Nat := 48
def t_Sc_onPlate : List (List (Nat × pE)) := [[(0, (1, 0, 0, 0, 0)), (1, (1, 5, 0, 1, 0)), (2, (1, 0, 0, 0, 0)), (3, (1, 5, 0, 2, 0)), (4, (1, 2, 0, 2, 0)), (5, (1, 3, 0, 0, 0)), (6, (3, 39, 0, 5, 0)), (9, (3, 38, 0, 7, 4)), (12, (3, 26, 0, 29, 0)), (15, (1, 2, 0, 1, 0))], [(16, (1, 3, 0, 0, 0)), (17, (1, 2, 0, 2, 0)), (18, (3, 55, 1, 47, 2)), (21, (1, 9, 0, 0, 0)), (22, (1, 5, 0, 1, 0)), (23, (3, 8, 1, 2, 0)), (26, (3, 22, 0, 4, 0)), (29, (1, 2, 0, 1, 0)), (30, (1, 62, 0, 0, 0))]]
abbrev m_Sc_allOf : Nat := 49
def t_Sc_allOf : List (List (Nat × pE)) := [[(0, (1, 0, 0, 0, 0)), (1, (1, 5, 0, 2, 0)), (2, (1, 0, 0, 0, 0)), (3, (1, 5, 0, 3, 0)), (4, (1, 2, 0, 3, 0)), (5, (1, 3, 0, 0, 0)), (6, (3, 39, 0, 5, 0)), (9, (3, 38, 0, 7, 4)), (12, (3, 26, 0, 30, 0)), (15, (1, 2, 0, 2, 0))], [(16, (1, 3, 0, 0, 0)), (17, (1, 2, 0, 3, 0)), (18, (1, 2, 0, 1, 0)), (19, (3, 55, 1, 46, 3)), (22, (1, 9, 0, 0, 0)), (23, (1, 5, 0, 2, 0)), (24, (3, 8, 1, 3, 0)), (27, (3, 22, 0, 4, 0)), (30, (1, 2, 0, 2, 0)), (31, (1, 62, 0, 0, 0))]]
abbrev m_Sc_selvesOf : Nat := 50
def t_Sc_selvesOf : List (List (Nat × pE)) := [[(0, (1, 0, 0, 0, 0)), (1, (1, 5, 0, 2, 0)), (2, (1, 0, 0, 0, 0)), (3, (1, 5, 0, 3, 0)), (4, (1, 2, 0, 3, 0)), (5, (1, 3, 0, 0, 0)), (6, (3, 39, 0, 5, 0)), (9, (3, 38, 0, 7, 4)), (12, (3, 26, 0, 36, 0)), (15, (1, 3, 0, 0, 0))], [(16, (1, 2, 0, 3, 0)), (17, (1, 2, 0, 1, 0)), (18, (3, 55, 1, 46, 3)), (21, (3, 34, 0, 30, 0)), (24, (1, 2, 0, 2, 0)), (25, (1, 0, 1, 0, 0)), (26, (1, 2, 0, 3, 0)), (27, (1, 9, 0, 0, 3)), (28, (1, 9, 0, 0, 7)), (29, (1, 5, 0, 2, 0)), (30, (3, 8, 1, 3, 0))], [(33, (3, 22, 0, 4, 0)), (36, (1, 2, 0, 2, 0)), (37, (1, 62, 0, 0, 0))]]
abbrev m_Sc_seenOn : Nat := 51
def t_Sc_seenOn : List (List (Nat × pE)) := [[(0, (1, 3, 0, 0, 0)), (1, (1, 2, 0, 1, 0)), (2, (3, 55, 1, 47, 2)), (5, (1, 5, 0, 2, 0)), (6, (1, 0, 0, 0, 0)), (7, (1, 5, 0, 3, 0)), (8, (1, 2, 0, 3, 0)), (9, (1, 3, 0, 0, 0)), (10, (3, 39, 0, 5, 0)), (13, (3, 38, 0, 7, 5))], [(16, (3, 26, 0, 39, 0)), (19, (1, 0, 2, 0, 0)), (20, (1, 3, 0, 0, 0)), (21, (1, 2, 0, 1, 0)), (22, (1, 2, 0, 3, 0)), (23, (3, 55, 1, 46, 3)), (26, (1, 9, 0, 0, 2)), (27, (1, 2, 0, 2, 0)), (28, (3, 28, 0, 33, 0)), (31, (1, 2, 0, 3, 0))], [(32, (1, 62, 0, 0, 0)), (33, (3, 8, 1, 3, 0)), (36, (3, 22, 0, 8, 0)), (39, (1, 0, (-1), 0, 0)), (40, (1, 62, 0, 0, 0))]]
abbrev m_Sc_whereSeen : Nat := 52
def t_Sc_whereSeen : List (List (Nat × pE)) := [[(0, (1, 0, 0, 0, 0)), (1, (1, 5, 0, 2, 0)), (2, (1, 0, 0, 0, 0)), (3, (1, 5, 0, 3, 0)), (4, (1, 2, 0, 3, 0)), (5, (1, 3, 0, 0, 0)), (6, (3, 39, 0, 5, 0)), (9, (3, 38, 0, 7, 4)), (12, (3, 26, 0, 36, 0)), (15, (1, 3, 0, 0, 0))], [(16, (1, 2, 0, 3, 0)), (17, (3, 55, 1, 51, 2)), (20, (1, 2, 0, 1, 0)), (21, (3, 24, 0, 30, 0)), (24, (1, 2, 0, 2, 0)), (25, (1, 0, 1, 0, 0)), (26, (1, 2, 0, 3, 0)), (27, (1, 9, 0, 0, 3)), (28, (1, 9, 0, 0, 7)), (29, (1, 5, 0, 2, 0)), (30, (3, 8, 1, 3, 0))], [(33, (3, 22, 0, 4, 0)), (36, (1, 2, 0, 2, 0)), (37, (1, 62, 0, 0, 0))]]
abbrev m_Sc_unseen : Nat := 53
def t_Sc_unseen : List (List (Nat × pE)) := [[(0, (1, 0, 1, 0, 0)), (1, (1, 3, 0, 0, 0)), (2, (3, 39, 0, 5, 0)), (5, (3, 38, 0, 7, 5)), (8, (1, 9, 0, 0, 3)), (9, (1, 0, 1, 0, 0)), (10, (1, 9, 0, 0, 1)), (11, (1, 5, 0, 1, 0)), (12, (1, 0, 0, 0, 0)), (13, (1, 5, 0, 2, 0)), (14, (1, 2, 0, 2, 0)), (15, (1, 3, 0, 0, 0))], [(16, (3, 39, 0, 5, 0)), (19, (3, 38, 0, 7, 4)), (22, (3, 26, 0, 50, 0)), (25, (1, 3, 0, 0, 0)), (26, (1, 2, 0, 2, 0)), (27, (3, 55, 1, 51, 2)), (30, (1, 5, 0, 3, 0)), (31, (1, 2, 0, 3, 0))], [(32, (1, 0, (-1), 0, 0)), (33, (3, 23, 0, 44, 0)), (36, (1, 2, 0, 1, 0)), (37, (1, 0, 1, 0, 0)), (38, (1, 2, 0, 3, 0)), (39, (1, 9, 0, 0, 3)), (40, (1, 0, (-1), 0, 0)), (41, (1, 9, 0, 0, 8)), (42, (1, 9, 0, 0, 6)), (43, (1, 5, 0, 1, 0)), (44, (3, 8, 1, 2, 0)), (47, (3, 22, 0, 14, 0))], [(50, (1, 2, 0, 1, 0)), (51, (1, 62, 0, 0, 0))]]
abbrev m_Sd_init : Nat := 54
def t_Sd_init : List (List (Nat × pE)) := [[(0, (1, 3, 0, 0, 0)), (1, (3, 58, 0, 0, 0)), (4, (1, 3, 0, 0, 0)), (5, (1, 2, 0, 1, 0)), (6, (3, 41, 0, 6, 0)), (9, (1, 65, 0, 0, 0))]]
abbrev m_Sd_nextBelow : Nat := 55
def t_Sd_nextBelow : List (List (Nat × pE)) := [[(0, (1, 3, 0, 0, 0)), (1, (1, 3, 0, 0, 0)), (2, (3, 38, 0, 6, 0)), (5, (2, 0, 1103515245, 0, 0)), (7, (1, 9, 0, 0, 2)), (8, (3, 0, 12345, 0, 0)), (11, (1, 9, 0, 0, 0)), (12, (3, 41, 0, 6, 0)), (15, (1, 2, 0, 1, 0))], [(16, (3, 33, 0, 23, 0)), (19, (1, 0, 0, 0, 0)), (20, (3, 22, 0, 36, 0)), (23, (1, 3, 0, 0, 0)), (24, (3, 38, 0, 6, 0)), (27, (2, 0, 16, 0, 0)), (29, (1, 9, 0, 0, 5)), (30, (3, 0, 32767, 0, 0))], [(33, (1, 9, 0, 0, 6)), (34, (1, 2, 0, 1, 0)), (35, (1, 11, 0, 0, 0)), (36, (1, 62, 0, 0, 0))]]
abbrev m_Su_init : Nat := 56
def t_Su_init : List (List (Nat × pE)) := [[(0, (1, 3, 0, 0, 0)), (1, (3, 58, 0, 0, 0)), (4, (1, 3, 0, 0, 0)), (5, (2, 0, 8, 0, 0)), (7, (2, 50, 0, 0, 0)), (9, (3, 42, 0, 7, 0)), (12, (1, 3, 0, 0, 0)), (13, (2, 0, 6, 0, 0)), (15, (2, 50, 0, 0, 0))], [(17, (3, 42, 0, 7, 1)), (20, (1, 3, 0, 0, 0)), (21, (2, 0, 6, 0, 0)), (23, (2, 50, 0, 0, 0)), (25, (3, 42, 0, 7, 2)), (28, (1, 3, 0, 0, 0)), (29, (2, 0, 8, 0, 0)), (31, (2, 50, 0, 0, 0))], [(33, (3, 42, 0, 7, 3)), (36, (1, 3, 0, 0, 0)), (37, (3, 0, 365, 0, 0)), (40, (3, 41, 0, 7, 7)), (43, (1, 3, 0, 0, 0)), (44, (2, 0, 20, 0, 0)), (46, (3, 41, 0, 7, 8))], [(49, (1, 65, 0, 0, 0))]]
abbrev m_Su_read : Nat := 57
def t_Su_read : List (List (Nat × pE)) := [[(0, (1, 0, 0, 0, 0)), (1, (1, 5, 0, 2, 0)), (2, (1, 2, 0, 2, 0)), (3, (2, 0, 60, 0, 0)), (5, (3, 27, 0, 51, 0)), (8, (1, 3, 0, 1, 0)), (9, (3, 55, 1, 70, 1)), (12, (1, 0, (-1), 0, 0)), (13, (3, 24, 0, 18, 0))], [(16, (1, 0, 1, 0, 0)), (17, (1, 66, 0, 0, 0)), (18, (1, 3, 0, 1, 0)), (19, (3, 55, 1, 73, 1)), (22, (3, 29, 0, 43, 0)), (25, (1, 3, 0, 0, 0)), (26, (1, 3, 0, 1, 0)), (27, (1, 2, 0, 2, 0)), (28, (3, 55, 1, 58, 3)), (31, (3, 29, 0, 43, 0))], [(34, (1, 3, 0, 1, 0)), (35, (2, 0, 59, 0, 0)), (37, (3, 55, 1, 72, 2)), (40, (3, 30, 0, 45, 0)), (43, (1, 0, 0, 0, 0)), (44, (1, 66, 0, 0, 0)), (45, (3, 8, 1, 2, 0))], [(48, (3, 22, 0, 2, 0)), (51, (1, 0, 0, 0, 0)), (52, (1, 66, 0, 0, 0))]]
abbrev m_Su_readClause : Nat := 58
def t_Su_readClause : List (List (Nat × pE)) := [[(0, (1, 3, 0, 1, 0)), (1, (2, 67, 0, 0, 0)), (3, (3, 55, 1, 74, 2)), (6, (3, 29, 0, 37, 0)), (9, (1, 3, 0, 1, 0)), (10, (1, 2, 0, 2, 0)), (11, (1, 3, 0, 0, 0)), (12, (3, 38, 0, 7, 4)), (15, (2, 0, 8, 0, 0))], [(17, (3, 56, 1, 59, 4)), (20, (3, 29, 0, 35, 0)), (23, (1, 3, 0, 0, 0)), (24, (1, 3, 0, 1, 0)), (25, (3, 55, 1, 60, 2)), (28, (3, 29, 0, 35, 0)), (31, (1, 0, 1, 0, 0))], [(32, (3, 22, 0, 36, 0)), (35, (1, 0, 0, 0, 0)), (36, (1, 66, 0, 0, 0)), (37, (1, 3, 0, 1, 0)), (38, (2, 67, 0, 1, 0)), (40, (3, 55, 1, 74, 2)), (43, (3, 29, 0, 74, 0)), (46, (1, 3, 0, 1, 0)), (47, (1, 2, 0, 2, 0))], [(48, (1, 3, 0, 0, 0)), (49, (3, 38, 0, 7, 5)), (52, (2, 0, 6, 0, 0)), (54, (3, 56, 1, 59, 4)), (57, (3, 29, 0, 72, 0)), (60, (1, 3, 0, 0, 0)), (61, (1, 3, 0, 1, 0)), (62, (3, 55, 1, 61, 2))], [(65, (3, 29, 0, 72, 0)), (68, (1, 0, 1, 0, 0)), (69, (3, 22, 0, 73, 0)), (72, (1, 0, 0, 0, 0)), (73, (1, 66, 0, 0, 0)), (74, (1, 3, 0, 1, 0)), (75, (2, 67, 0, 2, 0)), (77, (3, 55, 1, 74, 2))], [(80, (3, 29, 0, 111, 0)), (83, (1, 3, 0, 1, 0)), (84, (1, 2, 0, 2, 0)), (85, (1, 3, 0, 0, 0)), (86, (3, 38, 0, 7, 6)), (89, (2, 0, 8, 0, 0)), (91, (3, 56, 1, 59, 4)), (94, (3, 29, 0, 109, 0))], [(97, (1, 3, 0, 0, 0)), (98, (1, 3, 0, 1, 0)), (99, (3, 55, 1, 62, 2)), (102, (3, 29, 0, 109, 0)), (105, (1, 0, 1, 0, 0)), (106, (3, 22, 0, 110, 0)), (109, (1, 0, 0, 0, 0)), (110, (1, 66, 0, 0, 0)), (111, (1, 3, 0, 1, 0))], [(112, (2, 67, 0, 3, 0)), (114, (3, 55, 1, 74, 2)), (117, (3, 29, 0, 144, 0)), (120, (1, 3, 0, 1, 0)), (121, (1, 2, 0, 2, 0)), (122, (1, 0, 0, 0, 0)), (123, (1, 0, 1, 0, 0)), (124, (3, 56, 1, 59, 4)), (127, (3, 29, 0, 142, 0))], [(130, (1, 3, 0, 0, 0)), (131, (1, 3, 0, 1, 0)), (132, (3, 55, 1, 63, 2)), (135, (3, 29, 0, 142, 0)), (138, (1, 0, 1, 0, 0)), (139, (3, 22, 0, 143, 0)), (142, (1, 0, 0, 0, 0)), (143, (1, 66, 0, 0, 0))], [(144, (1, 3, 0, 1, 0)), (145, (2, 67, 0, 4, 0)), (147, (3, 55, 1, 74, 2)), (150, (3, 29, 0, 177, 0)), (153, (1, 3, 0, 1, 0)), (154, (1, 2, 0, 2, 0)), (155, (1, 0, 0, 0, 0)), (156, (1, 0, 1, 0, 0)), (157, (3, 56, 1, 59, 4))], [(160, (3, 29, 0, 175, 0)), (163, (1, 3, 0, 0, 0)), (164, (1, 3, 0, 1, 0)), (165, (3, 55, 1, 64, 2)), (168, (3, 29, 0, 175, 0)), (171, (1, 0, 1, 0, 0)), (172, (3, 22, 0, 176, 0)), (175, (1, 0, 0, 0, 0))], [(176, (1, 66, 0, 0, 0)), (177, (1, 3, 0, 1, 0)), (178, (1, 0, 1, 0, 0)), (179, (3, 55, 1, 77, 2)), (182, (1, 66, 0, 0, 0))]]
abbrev m_Su_hasRoom : Nat := 59
def t_Su_hasRoom : List (List (Nat × pE)) := [[(0, (1, 2, 0, 1, 0)), (1, (2, 0, 60, 0, 0)), (3, (3, 26, 0, 11, 0)), (6, (1, 2, 0, 2, 0)), (7, (1, 2, 0, 3, 0)), (8, (3, 25, 0, 19, 0)), (11, (1, 3, 0, 0, 0)), (12, (1, 0, 3, 0, 0)), (13, (3, 55, 1, 77, 2))], [(16, (3, 29, 0, 23, 0)), (19, (1, 0, 1, 0, 0)), (20, (3, 22, 0, 24, 0)), (23, (1, 0, 0, 0, 0)), (24, (1, 66, 0, 0, 0))]]
abbrev m_Su_readSeat : Nat := 60
def t_Su_readSeat : List (List (Nat × pE)) := [[(0, (1, 3, 0, 1, 0)), (1, (1, 0, 0, 0, 0)), (2, (2, 0, 9, 0, 0)), (4, (3, 55, 1, 75, 3)), (7, (1, 5, 0, 2, 0)), (8, (1, 2, 0, 2, 0)), (9, (1, 0, (-1), 0, 0)), (10, (3, 24, 0, 15, 0)), (13, (1, 0, 0, 0, 0)), (14, (1, 66, 0, 0, 0)), (15, (1, 3, 0, 0, 0))], [(16, (3, 39, 0, 7, 0)), (19, (1, 3, 0, 0, 0)), (20, (3, 38, 0, 7, 4)), (23, (1, 2, 0, 2, 0)), (24, (1, 44, 0, 0, 0)), (25, (1, 3, 0, 0, 0)), (26, (1, 18, 0, 0, 0)), (27, (3, 38, 0, 7, 4)), (30, (1, 0, 1, 0, 0)), (31, (1, 9, 0, 0, 0))], [(32, (3, 41, 0, 7, 4)), (35, (1, 0, 1, 0, 0)), (36, (1, 66, 0, 0, 0))]]
abbrev m_Su_readSitter : Nat := 61
def t_Su_readSitter : List (List (Nat × pE)) := [[(0, (1, 3, 0, 1, 0)), (1, (1, 0, 1, 0, 0)), (2, (2, 0, 9, 0, 0)), (4, (3, 55, 1, 75, 3)), (7, (1, 5, 0, 2, 0)), (8, (1, 2, 0, 2, 0)), (9, (1, 0, (-1), 0, 0)), (10, (3, 24, 0, 15, 0)), (13, (1, 0, 0, 0, 0)), (14, (1, 66, 0, 0, 0)), (15, (1, 3, 0, 1, 0))], [(16, (1, 0, 1, 0, 0)), (17, (2, 0, 60, 0, 0)), (19, (3, 55, 1, 75, 3)), (22, (1, 5, 0, 3, 0)), (23, (1, 2, 0, 3, 0)), (24, (1, 0, (-1), 0, 0)), (25, (3, 24, 0, 30, 0)), (28, (1, 0, 0, 0, 0)), (29, (1, 66, 0, 0, 0)), (30, (1, 3, 0, 0, 0)), (31, (3, 39, 0, 7, 1))], [(34, (1, 3, 0, 0, 0)), (35, (3, 38, 0, 7, 5)), (38, (1, 2, 0, 2, 0)), (39, (1, 44, 0, 0, 0)), (40, (1, 3, 0, 0, 0)), (41, (3, 39, 0, 7, 2)), (44, (1, 3, 0, 0, 0)), (45, (3, 38, 0, 7, 5))], [(48, (1, 2, 0, 3, 0)), (49, (1, 44, 0, 0, 0)), (50, (1, 3, 0, 0, 0)), (51, (1, 18, 0, 0, 0)), (52, (3, 38, 0, 7, 5)), (55, (1, 0, 1, 0, 0)), (56, (1, 9, 0, 0, 0)), (57, (3, 41, 0, 7, 5)), (60, (1, 0, 1, 0, 0)), (61, (1, 66, 0, 0, 0))]]
abbrev m_Su_readSitting : Nat := 62
def t_Su_readSitting : List (List (Nat × pE)) := [[(0, (1, 3, 0, 1, 0)), (1, (1, 0, 1, 0, 0)), (2, (3, 0, 400, 0, 0)), (5, (3, 55, 1, 75, 3)), (8, (1, 5, 0, 2, 0)), (9, (1, 2, 0, 2, 0)), (10, (1, 0, (-1), 0, 0)), (11, (3, 24, 0, 16, 0)), (14, (1, 0, 0, 0, 0)), (15, (1, 66, 0, 0, 0))], [(16, (1, 3, 0, 0, 0)), (17, (3, 39, 0, 7, 3)), (20, (1, 3, 0, 0, 0)), (21, (3, 38, 0, 7, 6)), (24, (1, 2, 0, 2, 0)), (25, (1, 44, 0, 0, 0)), (26, (1, 3, 0, 0, 0)), (27, (1, 18, 0, 0, 0)), (28, (3, 38, 0, 7, 6)), (31, (1, 0, 1, 0, 0))], [(32, (1, 9, 0, 0, 0)), (33, (3, 41, 0, 7, 6)), (36, (1, 0, 1, 0, 0)), (37, (1, 66, 0, 0, 0))]]
abbrev m_Su_readYear : Nat := 63
def t_Su_readYear : List (List (Nat × pE)) := [[(0, (1, 3, 0, 0, 0)), (1, (1, 3, 0, 1, 0)), (2, (1, 0, 1, 0, 0)), (3, (3, 0, 400, 0, 0)), (6, (3, 55, 1, 75, 3)), (9, (3, 41, 0, 7, 7)), (12, (1, 3, 0, 0, 0)), (13, (3, 38, 0, 7, 7))], [(16, (1, 0, (-1), 0, 0)), (17, (3, 23, 0, 24, 0)), (20, (1, 0, 1, 0, 0)), (21, (3, 22, 0, 25, 0)), (24, (1, 0, 0, 0, 0)), (25, (1, 66, 0, 0, 0))]]
abbrev m_Su_readFood : Nat := 64
def t_Su_readFood : List (List (Nat × pE)) := [[(0, (1, 3, 0, 0, 0)), (1, (1, 3, 0, 1, 0)), (2, (1, 0, 0, 0, 0)), (3, (2, 0, 99, 0, 0)), (5, (3, 55, 1, 75, 3)), (8, (3, 41, 0, 7, 8)), (11, (1, 3, 0, 0, 0)), (12, (3, 38, 0, 7, 8)), (15, (1, 0, (-1), 0, 0))], [(16, (3, 23, 0, 23, 0)), (19, (1, 0, 1, 0, 0)), (20, (3, 22, 0, 24, 0)), (23, (1, 0, 0, 0, 0)), (24, (1, 66, 0, 0, 0))]]
abbrev m_Tp_init : Nat := 65
def t_Tp_init : List (List (Nat × pE)) := [[(0, (1, 3, 0, 0, 0)), (1, (3, 58, 0, 0, 0)), (4, (1, 3, 0, 0, 0)), (5, (3, 0, 600, 0, 0)), (8, (2, 50, 0, 0, 0)), (10, (3, 42, 0, 8, 0)), (13, (1, 3, 0, 0, 0)), (14, (1, 0, (-1), 0, 0)), (15, (3, 41, 0, 8, 2))], [(18, (1, 65, 0, 0, 0))]]
abbrev m_Tp_hasRoom : Nat := 66
def t_Tp_hasRoom : List (List (Nat × pE)) := [[(0, (1, 3, 0, 0, 0)), (1, (3, 38, 0, 8, 1)), (4, (2, 0, 20, 0, 0)), (6, (1, 9, 0, 0, 0)), (7, (1, 3, 0, 0, 0)), (8, (3, 39, 0, 8, 0)), (11, (1, 49, 0, 0, 0)), (12, (3, 27, 0, 19, 0)), (15, (1, 0, 1, 0, 0))], [(16, (3, 22, 0, 20, 0)), (19, (1, 0, 0, 0, 0)), (20, (1, 66, 0, 0, 0))]]
abbrev m_Tp_put : Nat := 67
def t_Tp_put : List (List (Nat × pE)) := [[(0, (2, 0, 24, 0, 0)), (2, (1, 5, 0, 2, 0)), (3, (1, 2, 0, 2, 0)), (4, (3, 31, 0, 51, 0)), (7, (1, 3, 0, 0, 0)), (8, (3, 38, 0, 8, 1)), (11, (1, 3, 0, 0, 0)), (12, (3, 39, 0, 8, 0)), (15, (1, 49, 0, 0, 0))], [(16, (3, 26, 0, 45, 0)), (19, (1, 3, 0, 0, 0)), (20, (3, 39, 0, 8, 0)), (23, (1, 3, 0, 0, 0)), (24, (3, 38, 0, 8, 1)), (27, (1, 2, 0, 1, 0)), (28, (1, 2, 0, 2, 0)), (29, (1, 9, 0, 0, 4)), (30, (3, 0, 255, 0, 0))], [(33, (1, 9, 0, 0, 6)), (34, (1, 44, 0, 0, 0)), (35, (1, 3, 0, 0, 0)), (36, (1, 18, 0, 0, 0)), (37, (3, 38, 0, 8, 1)), (40, (1, 0, 1, 0, 0)), (41, (1, 9, 0, 0, 0)), (42, (3, 41, 0, 8, 1)), (45, (3, 8, (-8), 2, 0))], [(48, (3, 22, 0, 3, 0)), (51, (1, 65, 0, 0, 0))]]
abbrev m_Tp_open : Nat := 68
def t_Tp_open : List (List (Nat × pE)) := [[(0, (1, 3, 0, 0, 0)), (1, (1, 2, 0, 1, 0)), (2, (3, 41, 0, 8, 4)), (5, (1, 3, 0, 0, 0)), (6, (1, 0, 0, 0, 0)), (7, (3, 41, 0, 8, 5)), (10, (1, 3, 0, 0, 0)), (11, (1, 0, 0, 0, 0)), (12, (3, 41, 0, 8, 6)), (15, (1, 3, 0, 0, 0))], [(16, (1, 0, 0, 0, 0)), (17, (3, 41, 0, 8, 1)), (20, (1, 3, 0, 0, 0)), (21, (1, 0, (-1), 0, 0)), (22, (3, 41, 0, 8, 2)), (25, (1, 3, 0, 0, 0)), (26, (1, 0, 0, 0, 0)), (27, (3, 41, 0, 8, 3)), (30, (1, 65, 0, 0, 0))]]
abbrev m_Tp_faultAnswer : Nat := 69
def t_Tp_faultAnswer : List (List (Nat × pE)) := [[(0, (1, 3, 0, 0, 0)), (1, (3, 38, 0, 8, 3)), (4, (2, 0, 10, 0, 0)), (6, (1, 9, 0, 0, 1)), (7, (1, 62, 0, 0, 0))]]
abbrev m_Tp_peek : Nat := 70
def t_Tp_peek : List (List (Nat × pE)) := [[(0, (1, 3, 0, 0, 0)), (1, (3, 38, 0, 8, 5)), (4, (1, 3, 0, 0, 0)), (5, (3, 38, 0, 8, 4)), (8, (3, 26, 0, 37, 0)), (11, (1, 3, 0, 0, 0)), (12, (1, 3, 0, 0, 0)), (13, (3, 38, 0, 8, 5))], [(16, (3, 55, 1, 79, 2)), (19, (2, 0, 32, 0, 0)), (21, (3, 24, 0, 37, 0)), (24, (1, 3, 0, 0, 0)), (25, (1, 18, 0, 0, 0)), (26, (3, 38, 0, 8, 5)), (29, (1, 0, 1, 0, 0)), (30, (1, 9, 0, 0, 0)), (31, (3, 41, 0, 8, 5))], [(34, (3, 22, 0, 0, 0)), (37, (1, 3, 0, 0, 0)), (38, (3, 38, 0, 8, 5)), (41, (1, 3, 0, 0, 0)), (42, (3, 38, 0, 8, 4)), (45, (3, 26, 0, 59, 0))], [(48, (1, 3, 0, 0, 0)), (49, (1, 3, 0, 0, 0)), (50, (3, 38, 0, 8, 5)), (53, (3, 55, 1, 79, 2)), (56, (3, 22, 0, 60, 0)), (59, (1, 0, (-1), 0, 0)), (60, (1, 62, 0, 0, 0))]]
abbrev m_Tp_skip : Nat := 71
def t_Tp_skip : List (List (Nat × pE)) := [[(0, (1, 3, 0, 0, 0)), (1, (1, 18, 0, 0, 0)), (2, (3, 38, 0, 8, 5)), (5, (1, 0, 1, 0, 0)), (6, (1, 9, 0, 0, 0)), (7, (3, 41, 0, 8, 5)), (10, (1, 65, 0, 0, 0))]]
abbrev m_Tp_sign : Nat := 72
def t_Tp_sign : List (List (Nat × pE)) := [[(0, (1, 3, 0, 0, 0)), (1, (3, 55, 1, 70, 1)), (4, (1, 2, 0, 1, 0)), (5, (3, 23, 0, 13, 0)), (8, (1, 3, 0, 0, 0)), (9, (3, 55, 1, 76, 1)), (12, (1, 66, 0, 0, 0)), (13, (1, 3, 0, 0, 0)), (14, (1, 18, 0, 0, 0)), (15, (3, 38, 0, 8, 5))], [(18, (1, 0, 1, 0, 0)), (19, (1, 9, 0, 0, 0)), (20, (3, 41, 0, 8, 5)), (23, (1, 0, 1, 0, 0)), (24, (1, 66, 0, 0, 0))]]
abbrev m_Tp_readWord : Nat := 73
def t_Tp_readWord : List (List (Nat × pE)) := [[(0, (1, 3, 0, 0, 0)), (1, (3, 55, 1, 70, 1)), (4, (1, 20, 0, 0, 0)), (5, (1, 3, 0, 0, 0)), (6, (1, 3, 0, 0, 0)), (7, (3, 38, 0, 8, 5)), (10, (3, 41, 0, 8, 6)), (13, (1, 3, 0, 0, 0)), (14, (3, 38, 0, 8, 5))], [(17, (1, 3, 0, 0, 0)), (18, (3, 38, 0, 8, 4)), (21, (3, 26, 0, 51, 0)), (24, (1, 3, 0, 0, 0)), (25, (1, 3, 0, 0, 0)), (26, (3, 38, 0, 8, 5)), (29, (3, 55, 1, 79, 2))], [(32, (3, 56, 1, 80, 1)), (35, (3, 29, 0, 51, 0)), (38, (1, 3, 0, 0, 0)), (39, (1, 18, 0, 0, 0)), (40, (3, 38, 0, 8, 5)), (43, (1, 0, 1, 0, 0)), (44, (1, 9, 0, 0, 0)), (45, (3, 41, 0, 8, 5))], [(48, (3, 22, 0, 13, 0)), (51, (1, 3, 0, 0, 0)), (52, (3, 38, 0, 8, 5)), (55, (1, 3, 0, 0, 0)), (56, (3, 38, 0, 8, 6)), (59, (3, 27, 0, 69, 0)), (62, (1, 3, 0, 0, 0)), (63, (3, 55, 1, 76, 1))], [(66, (3, 29, 0, 73, 0)), (69, (1, 0, 1, 0, 0)), (70, (3, 22, 0, 74, 0)), (73, (1, 0, 0, 0, 0)), (74, (1, 66, 0, 0, 0))]]
abbrev m_Tp_wordIs : Nat := 74
def t_Tp_wordIs : List (List (Nat × pE)) := [[(0, (1, 3, 0, 0, 0)), (1, (3, 38, 0, 8, 5)), (4, (1, 3, 0, 0, 0)), (5, (3, 38, 0, 8, 6)), (8, (1, 9, 0, 0, 1)), (9, (1, 3, 0, 1, 0)), (10, (3, 60, 0, 0, 0)), (13, (3, 23, 0, 18, 0))], [(16, (1, 0, 0, 0, 0)), (17, (1, 66, 0, 0, 0)), (18, (1, 0, 0, 0, 0)), (19, (1, 5, 0, 2, 0)), (20, (1, 2, 0, 2, 0)), (21, (1, 3, 0, 1, 0)), (22, (3, 60, 0, 0, 0)), (25, (3, 26, 0, 54, 0)), (28, (1, 3, 0, 0, 0)), (29, (1, 3, 0, 0, 0)), (30, (3, 38, 0, 8, 6))], [(33, (1, 2, 0, 2, 0)), (34, (1, 9, 0, 0, 0)), (35, (3, 55, 1, 79, 2)), (38, (1, 3, 0, 1, 0)), (39, (1, 2, 0, 2, 0)), (40, (3, 61, 0, 0, 0)), (43, (3, 23, 0, 48, 0)), (46, (1, 0, 0, 0, 0)), (47, (1, 66, 0, 0, 0))], [(48, (3, 8, 1, 2, 0)), (51, (3, 22, 0, 20, 0)), (54, (1, 0, 1, 0, 0)), (55, (1, 66, 0, 0, 0))]]
abbrev m_Tp_readNumber : Nat := 75
def t_Tp_readNumber : List (List (Nat × pE)) := [[(0, (1, 3, 0, 0, 0)), (1, (3, 55, 1, 70, 1)), (4, (1, 20, 0, 0, 0)), (5, (1, 3, 0, 0, 0)), (6, (1, 3, 0, 0, 0)), (7, (3, 38, 0, 8, 5)), (10, (3, 41, 0, 8, 6)), (13, (1, 0, 0, 0, 0)), (14, (1, 5, 0, 3, 0)), (15, (1, 3, 0, 0, 0))], [(16, (3, 38, 0, 8, 5)), (19, (1, 3, 0, 0, 0)), (20, (3, 38, 0, 8, 4)), (23, (3, 26, 0, 75, 0)), (26, (1, 3, 0, 0, 0)), (27, (1, 3, 0, 0, 0)), (28, (3, 38, 0, 8, 5)), (31, (3, 55, 1, 79, 2))], [(34, (3, 56, 1, 81, 1)), (37, (3, 29, 0, 75, 0)), (40, (2, 0, 1000000, 0, 0)), (42, (1, 2, 0, 3, 0)), (43, (2, 0, 10, 0, 0)), (45, (1, 9, 0, 0, 2)), (46, (1, 3, 0, 0, 0)), (47, (1, 3, 0, 0, 0))], [(48, (3, 38, 0, 8, 5)), (51, (3, 55, 1, 79, 2)), (54, (1, 9, 0, 0, 0)), (55, (2, 0, 48, 0, 0)), (57, (1, 9, 0, 0, 1)), (58, (3, 69, 0, 0, 0)), (61, (1, 5, 0, 3, 0)), (62, (1, 3, 0, 0, 0)), (63, (1, 18, 0, 0, 0))], [(64, (3, 38, 0, 8, 5)), (67, (1, 0, 1, 0, 0)), (68, (1, 9, 0, 0, 0)), (69, (3, 41, 0, 8, 5)), (72, (3, 22, 0, 15, 0)), (75, (1, 3, 0, 0, 0)), (76, (3, 38, 0, 8, 5)), (79, (1, 3, 0, 0, 0))], [(80, (3, 38, 0, 8, 6)), (83, (3, 24, 0, 93, 0)), (86, (1, 3, 0, 0, 0)), (87, (3, 55, 1, 76, 1)), (90, (1, 20, 0, 0, 0)), (91, (1, 0, (-1), 0, 0)), (92, (1, 62, 0, 0, 0)), (93, (1, 2, 0, 3, 0)), (94, (1, 2, 0, 1, 0)), (95, (3, 25, 0, 103, 0))], [(98, (1, 2, 0, 3, 0)), (99, (1, 2, 0, 2, 0)), (100, (3, 28, 0, 111, 0)), (103, (1, 3, 0, 0, 0)), (104, (1, 0, 2, 0, 0)), (105, (3, 55, 1, 77, 2)), (108, (1, 20, 0, 0, 0)), (109, (1, 0, (-1), 0, 0)), (110, (1, 62, 0, 0, 0)), (111, (1, 2, 0, 3, 0))], [(112, (1, 62, 0, 0, 0))]]
abbrev m_Tp_failHere : Nat := 76
def t_Tp_failHere : List (List (Nat × pE)) := [[(0, (1, 3, 0, 0, 0)), (1, (1, 0, 1, 0, 0)), (2, (3, 41, 0, 8, 3)), (5, (1, 3, 0, 0, 0)), (6, (1, 3, 0, 0, 0)), (7, (3, 38, 0, 8, 5)), (10, (3, 41, 0, 8, 2)), (13, (1, 0, 0, 0, 0)), (14, (1, 66, 0, 0, 0))]]
abbrev m_Tp_failAtStart : Nat := 77
def t_Tp_failAtStart : List (List (Nat × pE)) := [[(0, (1, 3, 0, 0, 0)), (1, (1, 2, 0, 1, 0)), (2, (3, 41, 0, 8, 3)), (5, (1, 3, 0, 0, 0)), (6, (1, 3, 0, 0, 0)), (7, (3, 38, 0, 8, 6)), (10, (3, 41, 0, 8, 2)), (13, (1, 0, 0, 0, 0)), (14, (1, 66, 0, 0, 0))]]
abbrev m_Tp_startHere : Nat := 78
def t_Tp_startHere : List (List (Nat × pE)) := [[(0, (1, 3, 0, 0, 0)), (1, (1, 3, 0, 0, 0)), (2, (3, 38, 0, 8, 5)), (5, (3, 41, 0, 8, 6)), (8, (1, 65, 0, 0, 0))]]
abbrev m_Tp_byteAt : Nat := 79
def t_Tp_byteAt : List (List (Nat × pE)) := [[(0, (1, 2, 0, 1, 0)), (1, (3, 31, 0, 22, 0)), (4, (1, 2, 0, 1, 0)), (5, (1, 3, 0, 0, 0)), (6, (3, 39, 0, 8, 0)), (9, (1, 49, 0, 0, 0)), (10, (3, 26, 0, 22, 0)), (13, (1, 3, 0, 0, 0)), (14, (3, 39, 0, 8, 0))], [(17, (1, 2, 0, 1, 0)), (18, (1, 43, 0, 0, 0)), (19, (3, 22, 0, 23, 0)), (22, (1, 0, (-1), 0, 0)), (23, (1, 62, 0, 0, 0))]]
abbrev m_Tp_isLetter : Nat := 80
def t_Tp_isLetter : List (List (Nat × pE)) := [[(0, (1, 2, 0, 0, 0)), (1, (2, 0, 97, 0, 0)), (3, (3, 25, 0, 16, 0)), (6, (1, 2, 0, 0, 0)), (7, (2, 0, 122, 0, 0)), (9, (3, 27, 0, 16, 0)), (12, (1, 0, 1, 0, 0)), (13, (3, 22, 0, 17, 0))], [(16, (1, 0, 0, 0, 0)), (17, (1, 66, 0, 0, 0))]]
abbrev m_Tp_isDigit : Nat := 81
def t_Tp_isDigit : List (List (Nat × pE)) := [[(0, (1, 2, 0, 0, 0)), (1, (2, 0, 48, 0, 0)), (3, (3, 25, 0, 16, 0)), (6, (1, 2, 0, 0, 0)), (7, (2, 0, 57, 0, 0)), (9, (3, 27, 0, 16, 0)), (12, (1, 0, 1, 0, 0)), (13, (3, 22, 0, 17, 0))], [(16, (1, 0, 0, 0, 0)), (17, (1, 66, 0, 0, 0))]]
abbrev m_Wk_init : Nat := 82
def t_Wk_init : List (List (Nat × pE)) := [[(0, (1, 3, 0, 0, 0)), (1, (3, 58, 0, 0, 0)), (4, (1, 3, 0, 0, 0)), (5, (2, 0, 64, 0, 0)), (7, (2, 50, 0, 0, 0)), (9, (3, 42, 0, 9, 0)), (12, (1, 3, 0, 0, 0)), (13, (2, 0, 64, 0, 0)), (15, (2, 50, 0, 0, 0))], [(17, (3, 42, 0, 9, 1)), (20, (1, 3, 0, 0, 0)), (21, (2, 0, 64, 0, 0)), (23, (2, 50, 0, 0, 0)), (25, (3, 42, 0, 9, 2)), (28, (1, 3, 0, 0, 0)), (29, (2, 0, 64, 0, 0)), (31, (2, 50, 0, 0, 0))], [(33, (3, 42, 0, 9, 3)), (36, (1, 3, 0, 0, 0)), (37, (2, 0, 6, 0, 0)), (39, (2, 50, 0, 0, 0)), (41, (3, 42, 0, 9, 4)), (44, (1, 65, 0, 0, 0))]]
abbrev m_Wk_read : Nat := 83
def t_Wk_read : List (List (Nat × pE)) := [[(0, (1, 0, 0, 0, 0)), (1, (1, 5, 0, 3, 0)), (2, (1, 2, 0, 3, 0)), (3, (3, 0, 150, 0, 0)), (6, (3, 27, 0, 88, 0)), (9, (1, 3, 0, 1, 0)), (10, (3, 55, 1, 70, 1)), (13, (2, 5, 0, 4, 0)), (15, (2, 2, 0, 4, 0))], [(17, (1, 0, (-1), 0, 0)), (18, (3, 24, 0, 30, 0)), (21, (1, 3, 0, 0, 0)), (22, (3, 38, 0, 9, 5)), (25, (3, 30, 0, 30, 0)), (28, (1, 0, 1, 0, 0)), (29, (1, 66, 0, 0, 0)), (30, (2, 2, 0, 4, 0))], [(32, (2, 0, 93, 0, 0)), (34, (3, 24, 0, 52, 0)), (37, (1, 3, 0, 0, 0)), (38, (3, 38, 0, 9, 5)), (41, (3, 34, 0, 52, 0)), (44, (1, 3, 0, 0, 0)), (45, (1, 3, 0, 1, 0)), (46, (3, 55, 1, 87, 2))], [(49, (3, 22, 0, 73, 0)), (52, (1, 3, 0, 1, 0)), (53, (3, 55, 1, 73, 1)), (56, (3, 29, 0, 72, 0)), (59, (1, 3, 0, 0, 0)), (60, (1, 3, 0, 1, 0)), (61, (1, 3, 0, 2, 0)), (62, (3, 55, 1, 84, 3))], [(65, (3, 29, 0, 72, 0)), (68, (1, 0, 1, 0, 0)), (69, (3, 22, 0, 73, 0)), (72, (1, 0, 0, 0, 0)), (73, (2, 5, 0, 5, 0)), (75, (2, 2, 0, 5, 0)), (77, (3, 30, 0, 82, 0))], [(80, (1, 0, 0, 0, 0)), (81, (1, 66, 0, 0, 0)), (82, (3, 8, 1, 3, 0)), (85, (3, 22, 0, 2, 0)), (88, (1, 0, 0, 0, 0)), (89, (1, 66, 0, 0, 0))]]
abbrev m_Wk_readStep : Nat := 84
def t_Wk_readStep : List (List (Nat × pE)) := [[(0, (1, 3, 0, 1, 0)), (1, (2, 67, 0, 15, 0)), (3, (3, 55, 1, 74, 2)), (6, (3, 29, 0, 24, 0)), (9, (1, 3, 0, 0, 0)), (10, (1, 3, 0, 1, 0)), (11, (1, 0, 0, 0, 0)), (12, (1, 3, 0, 2, 0)), (13, (3, 38, 0, 7, 5))], [(16, (1, 3, 0, 2, 0)), (17, (3, 38, 0, 7, 4)), (20, (3, 55, 1, 85, 5)), (23, (1, 66, 0, 0, 0)), (24, (1, 3, 0, 1, 0)), (25, (2, 67, 0, 16, 0)), (27, (3, 55, 1, 74, 2)), (30, (3, 29, 0, 45, 0))], [(33, (1, 3, 0, 0, 0)), (34, (1, 3, 0, 1, 0)), (35, (1, 0, 1, 0, 0)), (36, (1, 3, 0, 2, 0)), (37, (3, 38, 0, 7, 5)), (40, (1, 0, 0, 0, 0)), (41, (3, 55, 1, 85, 5)), (44, (1, 66, 0, 0, 0)), (45, (1, 3, 0, 1, 0)), (46, (2, 67, 0, 17, 0))], [(48, (3, 55, 1, 74, 2)), (51, (3, 29, 0, 66, 0)), (54, (1, 3, 0, 0, 0)), (55, (1, 3, 0, 1, 0)), (56, (1, 0, 2, 0, 0)), (57, (1, 3, 0, 2, 0)), (58, (3, 38, 0, 7, 5)), (61, (1, 0, 0, 0, 0)), (62, (3, 55, 1, 85, 5))], [(65, (1, 66, 0, 0, 0)), (66, (1, 3, 0, 1, 0)), (67, (2, 67, 0, 18, 0)), (69, (3, 55, 1, 74, 2)), (72, (3, 29, 0, 88, 0)), (75, (1, 3, 0, 0, 0)), (76, (1, 3, 0, 1, 0)), (77, (1, 0, 3, 0, 0)), (78, (1, 3, 0, 2, 0)), (79, (3, 38, 0, 7, 4))], [(82, (2, 0, 10, 0, 0)), (84, (3, 55, 1, 85, 5)), (87, (1, 66, 0, 0, 0)), (88, (1, 3, 0, 1, 0)), (89, (2, 67, 0, 19, 0)), (91, (3, 55, 1, 74, 2)), (94, (3, 29, 0, 122, 0))], [(97, (1, 3, 0, 0, 0)), (98, (1, 0, 4, 0, 0)), (99, (1, 0, 0, 0, 0)), (100, (1, 0, 0, 0, 0)), (101, (3, 55, 1, 88, 4)), (104, (3, 29, 0, 120, 0)), (107, (1, 3, 0, 1, 0)), (108, (2, 0, 59, 0, 0)), (110, (3, 55, 1, 72, 2))], [(113, (3, 29, 0, 120, 0)), (116, (1, 0, 1, 0, 0)), (117, (3, 22, 0, 121, 0)), (120, (1, 0, 0, 0, 0)), (121, (1, 66, 0, 0, 0)), (122, (1, 3, 0, 1, 0)), (123, (2, 67, 0, 20, 0)), (125, (3, 55, 1, 74, 2))], [(128, (3, 29, 0, 137, 0)), (131, (1, 3, 0, 0, 0)), (132, (1, 3, 0, 1, 0)), (133, (3, 55, 1, 86, 2)), (136, (1, 66, 0, 0, 0)), (137, (1, 3, 0, 1, 0)), (138, (1, 0, 1, 0, 0)), (139, (3, 55, 1, 77, 2)), (142, (1, 66, 0, 0, 0))]]
abbrev m_Wk_readNumbered : Nat := 85
def t_Wk_readNumbered : List (List (Nat × pE)) := [[(0, (1, 3, 0, 1, 0)), (1, (1, 0, 0, 0, 0)), (2, (1, 2, 0, 3, 0)), (3, (1, 0, 1, 0, 0)), (4, (1, 9, 0, 0, 1)), (5, (3, 55, 1, 75, 3)), (8, (2, 5, 0, 5, 0)), (10, (2, 2, 0, 5, 0)), (12, (1, 0, (-1), 0, 0)), (13, (3, 24, 0, 18, 0))], [(16, (1, 0, 0, 0, 0)), (17, (1, 66, 0, 0, 0)), (18, (1, 0, 0, 0, 0)), (19, (2, 5, 0, 6, 0)), (21, (1, 2, 0, 2, 0)), (22, (3, 29, 0, 30, 0)), (25, (1, 2, 0, 2, 0)), (26, (1, 0, 3, 0, 0)), (27, (3, 24, 0, 41, 0)), (30, (1, 3, 0, 1, 0)), (31, (1, 0, 0, 0, 0))], [(32, (2, 2, 0, 4, 0)), (34, (1, 0, 1, 0, 0)), (35, (1, 9, 0, 0, 1)), (36, (3, 55, 1, 75, 3)), (39, (2, 5, 0, 6, 0)), (41, (2, 2, 0, 6, 0)), (43, (1, 0, (-1), 0, 0)), (44, (3, 23, 0, 72, 0)), (47, (1, 3, 0, 0, 0))], [(48, (1, 2, 0, 2, 0)), (49, (2, 2, 0, 5, 0)), (51, (2, 2, 0, 6, 0)), (53, (3, 55, 1, 88, 4)), (56, (3, 29, 0, 72, 0)), (59, (1, 3, 0, 1, 0)), (60, (2, 0, 59, 0, 0)), (62, (3, 55, 1, 72, 2))], [(65, (3, 29, 0, 72, 0)), (68, (1, 0, 1, 0, 0)), (69, (3, 22, 0, 73, 0)), (72, (1, 0, 0, 0, 0)), (73, (1, 66, 0, 0, 0))]]
abbrev m_Wk_readAgain : Nat := 86
def t_Wk_readAgain : List (List (Nat × pE)) := [[(0, (1, 3, 0, 0, 0)), (1, (3, 38, 0, 9, 5)), (4, (1, 3, 0, 0, 0)), (5, (3, 39, 0, 9, 4)), (8, (1, 49, 0, 0, 0)), (9, (3, 25, 0, 18, 0)), (12, (1, 3, 0, 1, 0)), (13, (1, 0, 3, 0, 0)), (14, (3, 55, 1, 77, 2))], [(17, (1, 66, 0, 0, 0)), (18, (1, 3, 0, 1, 0)), (19, (1, 0, 0, 0, 0)), (20, (2, 0, 60, 0, 0)), (22, (3, 55, 1, 75, 3)), (25, (1, 5, 0, 2, 0)), (26, (1, 2, 0, 2, 0)), (27, (1, 0, (-1), 0, 0)), (28, (3, 23, 0, 40, 0)), (31, (1, 3, 0, 1, 0))], [(32, (2, 0, 91, 0, 0)), (34, (3, 55, 1, 72, 2)), (37, (3, 30, 0, 42, 0)), (40, (1, 0, 0, 0, 0)), (41, (1, 66, 0, 0, 0)), (42, (1, 3, 0, 0, 0)), (43, (3, 39, 0, 9, 4)), (46, (1, 3, 0, 0, 0)), (47, (3, 38, 0, 9, 5))], [(50, (1, 3, 0, 0, 0)), (51, (3, 38, 0, 9, 6)), (54, (1, 44, 0, 0, 0)), (55, (1, 3, 0, 0, 0)), (56, (1, 18, 0, 0, 0)), (57, (3, 38, 0, 9, 5)), (60, (1, 0, 1, 0, 0)), (61, (1, 9, 0, 0, 0)), (62, (3, 41, 0, 9, 5))], [(65, (1, 3, 0, 0, 0)), (66, (1, 0, 5, 0, 0)), (67, (1, 2, 0, 2, 0)), (68, (1, 0, 0, 0, 0)), (69, (3, 55, 1, 88, 4)), (72, (1, 66, 0, 0, 0))]]
abbrev m_Wk_readEnd : Nat := 87
def t_Wk_readEnd : List (List (Nat × pE)) := [[(0, (1, 3, 0, 1, 0)), (1, (3, 55, 0, 71, 1)), (4, (1, 3, 0, 0, 0)), (5, (1, 18, 0, 0, 0)), (6, (3, 38, 0, 9, 5)), (9, (1, 0, 1, 0, 0)), (10, (1, 9, 0, 0, 1)), (11, (3, 41, 0, 9, 5)), (14, (1, 3, 0, 0, 0)), (15, (3, 39, 0, 9, 4))], [(18, (1, 3, 0, 0, 0)), (19, (3, 38, 0, 9, 5)), (22, (1, 43, 0, 0, 0)), (23, (1, 5, 0, 2, 0)), (24, (1, 2, 0, 2, 0)), (25, (3, 31, 0, 47, 0)), (28, (1, 2, 0, 2, 0)), (29, (1, 3, 0, 0, 0)), (30, (3, 39, 0, 9, 2))], [(33, (1, 49, 0, 0, 0)), (34, (3, 26, 0, 47, 0)), (37, (1, 3, 0, 0, 0)), (38, (3, 39, 0, 9, 2)), (41, (1, 2, 0, 2, 0)), (42, (1, 3, 0, 0, 0)), (43, (3, 38, 0, 9, 6)), (46, (1, 44, 0, 0, 0)), (47, (1, 3, 0, 0, 0))], [(48, (2, 0, 6, 0, 0)), (50, (1, 2, 0, 2, 0)), (51, (1, 0, 0, 0, 0)), (52, (3, 55, 1, 88, 4)), (55, (3, 29, 0, 71, 0)), (58, (1, 3, 0, 1, 0)), (59, (2, 0, 59, 0, 0)), (61, (3, 55, 1, 72, 2))], [(64, (3, 29, 0, 71, 0)), (67, (1, 0, 1, 0, 0)), (68, (3, 22, 0, 72, 0)), (71, (1, 0, 0, 0, 0)), (72, (1, 66, 0, 0, 0))]]
abbrev m_Wk_add : Nat := 88
def t_Wk_add : List (List (Nat × pE)) := [[(0, (1, 3, 0, 0, 0)), (1, (3, 38, 0, 9, 6)), (4, (1, 3, 0, 0, 0)), (5, (3, 39, 0, 9, 0)), (8, (1, 49, 0, 0, 0)), (9, (3, 26, 0, 52, 0)), (12, (1, 3, 0, 0, 0)), (13, (3, 39, 0, 9, 0))], [(16, (1, 3, 0, 0, 0)), (17, (3, 38, 0, 9, 6)), (20, (1, 2, 0, 1, 0)), (21, (1, 44, 0, 0, 0)), (22, (1, 3, 0, 0, 0)), (23, (3, 39, 0, 9, 1)), (26, (1, 3, 0, 0, 0)), (27, (3, 38, 0, 9, 6)), (30, (1, 2, 0, 2, 0)), (31, (1, 44, 0, 0, 0))], [(32, (1, 3, 0, 0, 0)), (33, (3, 39, 0, 9, 2)), (36, (1, 3, 0, 0, 0)), (37, (3, 38, 0, 9, 6)), (40, (1, 2, 0, 3, 0)), (41, (1, 44, 0, 0, 0)), (42, (1, 3, 0, 0, 0)), (43, (1, 18, 0, 0, 0)), (44, (3, 38, 0, 9, 6)), (47, (1, 0, 1, 0, 0))], [(48, (1, 9, 0, 0, 0)), (49, (3, 41, 0, 9, 6)), (52, (1, 0, 1, 0, 0)), (53, (1, 66, 0, 0, 0))]]
abbrev m_Wk_run : Nat := 89
def t_Wk_run : List (List (Nat × pE)) := [[(0, (1, 0, 0, 0, 0)), (1, (1, 5, 0, 3, 0)), (2, (1, 0, 0, 0, 0)), (3, (2, 5, 0, 4, 0)), (5, (1, 0, 0, 0, 0)), (6, (2, 5, 0, 5, 0)), (8, (2, 2, 0, 5, 0)), (10, (2, 0, 100000, 0, 0)), (12, (3, 26, 0, 137, 0)), (15, (1, 2, 0, 3, 0))], [(16, (3, 31, 0, 137, 0)), (19, (1, 2, 0, 3, 0)), (20, (1, 3, 0, 0, 0)), (21, (3, 38, 0, 9, 6)), (24, (3, 26, 0, 137, 0)), (27, (1, 3, 0, 0, 0)), (28, (3, 39, 0, 9, 0)), (31, (1, 2, 0, 3, 0))], [(32, (1, 43, 0, 0, 0)), (33, (2, 0, 6, 0, 0)), (35, (3, 24, 0, 47, 0)), (38, (1, 3, 0, 0, 0)), (39, (1, 2, 0, 3, 0)), (40, (3, 55, 1, 91, 2)), (43, (1, 5, 0, 3, 0)), (44, (3, 22, 0, 131, 0)), (47, (2, 2, 0, 4, 0))], [(49, (3, 0, 200, 0, 0)), (52, (3, 25, 0, 56, 0)), (55, (1, 65, 0, 0, 0)), (56, (1, 3, 0, 0, 0)), (57, (3, 39, 0, 9, 0)), (60, (1, 2, 0, 3, 0)), (61, (1, 43, 0, 0, 0)), (62, (1, 0, 5, 0, 0)), (63, (3, 24, 0, 78, 0))], [(66, (3, 8, 1, 4, 0)), (69, (1, 3, 0, 0, 0)), (70, (1, 2, 0, 3, 0)), (71, (3, 55, 1, 90, 2)), (74, (1, 5, 0, 3, 0)), (75, (3, 22, 0, 131, 0)), (78, (3, 8, 1, 4, 0))], [(81, (1, 3, 0, 0, 0)), (82, (1, 2, 0, 3, 0)), (83, (1, 3, 0, 1, 0)), (84, (1, 3, 0, 2, 0)), (85, (3, 55, 1, 92, 4)), (88, (2, 5, 0, 6, 0)), (90, (1, 3, 0, 0, 0)), (91, (1, 18, 0, 0, 0)), (92, (3, 38, 0, 9, 7)), (95, (2, 2, 0, 6, 0))], [(97, (3, 29, 0, 104, 0)), (100, (1, 0, 1, 0, 0)), (101, (3, 22, 0, 105, 0)), (104, (1, 0, 0, 0, 0)), (105, (1, 9, 0, 0, 0)), (106, (3, 41, 0, 9, 7)), (109, (1, 3, 0, 0, 0)), (110, (1, 18, 0, 0, 0)), (111, (3, 38, 0, 9, 8))], [(114, (2, 2, 0, 6, 0)), (116, (3, 29, 0, 123, 0)), (119, (1, 0, 0, 0, 0)), (120, (3, 22, 0, 124, 0)), (123, (1, 0, 1, 0, 0)), (124, (1, 9, 0, 0, 0)), (125, (3, 41, 0, 9, 8))], [(128, (3, 8, 1, 3, 0)), (131, (3, 8, 1, 5, 0)), (134, (3, 22, 0, 8, 0)), (137, (1, 65, 0, 0, 0))]]
abbrev m_Wk_intoAgain : Nat := 90
def t_Wk_intoAgain : List (List (Nat × pE)) := [[(0, (1, 3, 0, 0, 0)), (1, (3, 39, 0, 9, 3)), (4, (1, 2, 0, 1, 0)), (5, (1, 3, 0, 0, 0)), (6, (3, 39, 0, 9, 1)), (9, (1, 2, 0, 1, 0)), (10, (1, 43, 0, 0, 0)), (11, (1, 44, 0, 0, 0)), (12, (1, 3, 0, 0, 0)), (13, (3, 39, 0, 9, 1))], [(16, (1, 2, 0, 1, 0)), (17, (1, 43, 0, 0, 0)), (18, (3, 30, 0, 32, 0)), (21, (1, 3, 0, 0, 0)), (22, (3, 39, 0, 9, 2)), (25, (1, 2, 0, 1, 0)), (26, (1, 43, 0, 0, 0)), (27, (1, 0, 1, 0, 0)), (28, (1, 9, 0, 0, 0)), (29, (3, 22, 0, 35, 0))], [(32, (1, 2, 0, 1, 0)), (33, (1, 0, 1, 0, 0)), (34, (1, 9, 0, 0, 0)), (35, (1, 62, 0, 0, 0))]]
abbrev m_Wk_behindRound : Nat := 91
def t_Wk_behindRound : List (List (Nat × pE)) := [[(0, (1, 3, 0, 0, 0)), (1, (3, 39, 0, 9, 1)), (4, (1, 2, 0, 1, 0)), (5, (1, 43, 0, 0, 0)), (6, (1, 5, 0, 2, 0)), (7, (1, 2, 0, 2, 0)), (8, (3, 31, 0, 20, 0)), (11, (1, 2, 0, 2, 0)), (12, (1, 3, 0, 0, 0)), (13, (3, 39, 0, 9, 3))], [(16, (1, 49, 0, 0, 0)), (17, (3, 25, 0, 24, 0)), (20, (1, 2, 0, 1, 0)), (21, (1, 0, 1, 0, 0)), (22, (1, 9, 0, 0, 0)), (23, (1, 62, 0, 0, 0)), (24, (1, 3, 0, 0, 0)), (25, (3, 39, 0, 9, 3)), (28, (1, 2, 0, 2, 0)), (29, (1, 19, 0, 0, 0)), (30, (1, 43, 0, 0, 0)), (31, (1, 0, 1, 0, 0))], [(32, (1, 9, 0, 0, 1)), (33, (1, 44, 0, 0, 0)), (34, (1, 3, 0, 0, 0)), (35, (3, 39, 0, 9, 3)), (38, (1, 2, 0, 2, 0)), (39, (1, 43, 0, 0, 0)), (40, (3, 34, 0, 49, 0)), (43, (1, 2, 0, 2, 0)), (44, (1, 0, 1, 0, 0)), (45, (1, 9, 0, 0, 0)), (46, (3, 22, 0, 52, 0))], [(49, (1, 2, 0, 1, 0)), (50, (1, 0, 1, 0, 0)), (51, (1, 9, 0, 0, 0)), (52, (1, 62, 0, 0, 0))]]
abbrev m_Wk_tryStep : Nat := 92
def t_Wk_tryStep : List (List (Nat × pE)) := [[(0, (1, 3, 0, 0, 0)), (1, (3, 39, 0, 9, 0)), (4, (1, 2, 0, 1, 0)), (5, (1, 43, 0, 0, 0)), (6, (30, 37, 0, 1, 0))], [], [(36, (1, 3, 0, 2, 0)), (37, (1, 3, 0, 0, 0)), (38, (3, 39, 0, 9, 1)), (41, (1, 2, 0, 1, 0)), (42, (1, 43, 0, 0, 0)), (43, (1, 3, 0, 0, 0)), (44, (3, 39, 0, 9, 2)), (47, (1, 2, 0, 1, 0))], [(48, (1, 43, 0, 0, 0)), (49, (3, 55, 1, 34, 3)), (52, (1, 66, 0, 0, 0)), (53, (1, 3, 0, 2, 0)), (54, (1, 3, 0, 0, 0)), (55, (3, 39, 0, 9, 1)), (58, (1, 2, 0, 1, 0)), (59, (1, 43, 0, 0, 0)), (60, (3, 55, 1, 35, 2)), (63, (1, 66, 0, 0, 0))], [(64, (1, 3, 0, 2, 0)), (65, (1, 3, 0, 0, 0)), (66, (3, 39, 0, 9, 1)), (69, (1, 2, 0, 1, 0)), (70, (1, 43, 0, 0, 0)), (71, (3, 55, 1, 36, 2)), (74, (1, 66, 0, 0, 0)), (75, (1, 3, 0, 2, 0)), (76, (1, 3, 0, 0, 0)), (77, (3, 39, 0, 9, 1))], [(80, (1, 2, 0, 1, 0)), (81, (1, 43, 0, 0, 0)), (82, (1, 3, 0, 0, 0)), (83, (3, 39, 0, 9, 2)), (86, (1, 2, 0, 1, 0)), (87, (1, 43, 0, 0, 0)), (88, (3, 55, 1, 37, 3)), (91, (1, 66, 0, 0, 0)), (92, (1, 3, 0, 2, 0)), (93, (3, 38, 0, 5, 6))], [(96, (3, 0, 800, 0, 0)), (99, (3, 25, 0, 104, 0)), (102, (1, 0, 0, 0, 0)), (103, (1, 66, 0, 0, 0)), (104, (1, 3, 0, 2, 0)), (105, (1, 3, 0, 3, 0)), (106, (3, 55, 0, 38, 2)), (109, (1, 0, 1, 0, 0)), (110, (1, 66, 0, 0, 0))]]
abbrev m_Y_init : Nat := 93
def t_Y_init : List (List (Nat × pE)) := [[(0, (1, 3, 0, 0, 0)), (1, (3, 58, 0, 0, 0)), (4, (1, 3, 0, 0, 0)), (5, (3, 53, 0, 8, 7)), (8, (1, 18, 0, 0, 0)), (9, (3, 57, 0, 65, 1)), (12, (3, 42, 0, 10, 0)), (15, (1, 3, 0, 0, 0))], [(16, (3, 53, 0, 4, 4)), (19, (1, 18, 0, 0, 0)), (20, (3, 57, 0, 25, 1)), (23, (3, 42, 0, 10, 1)), (26, (1, 3, 0, 0, 0)), (27, (1, 0, 3, 0, 0)), (28, (3, 52, 0, 2, 0)), (31, (3, 42, 0, 10, 2))], [(34, (1, 3, 0, 0, 0)), (35, (3, 53, 0, 7, 9)), (38, (1, 18, 0, 0, 0)), (39, (3, 57, 0, 56, 1)), (42, (3, 42, 0, 10, 3)), (45, (1, 3, 0, 0, 0)), (46, (3, 53, 0, 1, 4))], [(49, (1, 18, 0, 0, 0)), (50, (3, 57, 0, 5, 1)), (53, (3, 42, 0, 10, 4)), (56, (1, 3, 0, 0, 0)), (57, (3, 53, 0, 0, 3)), (60, (1, 18, 0, 0, 0)), (61, (3, 57, 0, 0, 1))], [(64, (3, 42, 0, 10, 5)), (67, (1, 3, 0, 0, 0)), (68, (3, 53, 0, 5, 8)), (71, (1, 18, 0, 0, 0)), (72, (1, 3, 0, 0, 0)), (73, (3, 39, 0, 10, 3)), (76, (3, 57, 0, 32, 2)), (79, (3, 42, 0, 10, 6))], [(82, (1, 3, 0, 0, 0)), (83, (3, 53, 0, 5, 8)), (86, (1, 18, 0, 0, 0)), (87, (1, 3, 0, 0, 0)), (88, (3, 39, 0, 10, 3)), (91, (3, 57, 0, 32, 2)), (94, (3, 42, 0, 10, 7))], [(97, (1, 65, 0, 0, 0))]]
abbrev m_Y_feed : Nat := 94
def t_Y_feed : List (List (Nat × pE)) := [[(0, (1, 3, 0, 0, 0)), (1, (3, 39, 0, 10, 0)), (4, (3, 55, 1, 66, 1)), (7, (3, 30, 0, 12, 0)), (10, (1, 0, (-1), 0, 0)), (11, (1, 62, 0, 0, 0)), (12, (1, 3, 0, 0, 0)), (13, (3, 39, 0, 10, 0))], [(16, (1, 2, 0, 1, 0)), (17, (3, 55, 0, 67, 2)), (20, (1, 3, 0, 0, 0)), (21, (3, 39, 0, 10, 0)), (24, (1, 2, 0, 2, 0)), (25, (3, 55, 0, 67, 2)), (28, (1, 3, 0, 0, 0)), (29, (3, 39, 0, 10, 0))], [(32, (1, 2, 0, 3, 0)), (33, (3, 55, 0, 67, 2)), (36, (1, 3, 0, 0, 0)), (37, (3, 39, 0, 10, 0)), (40, (2, 2, 0, 4, 0)), (42, (3, 55, 0, 67, 2)), (45, (1, 3, 0, 0, 0)), (46, (3, 39, 0, 10, 0))], [(49, (2, 2, 0, 5, 0)), (51, (3, 55, 0, 67, 2)), (54, (1, 3, 0, 0, 0)), (55, (3, 39, 0, 10, 0)), (58, (3, 38, 0, 8, 1)), (61, (1, 62, 0, 0, 0))]]
abbrev m_Y_studio : Nat := 95
def t_Y_studio : List (List (Nat × pE)) := [[(0, (1, 3, 0, 0, 0)), (1, (1, 2, 0, 1, 0)), (2, (3, 0, 600, 0, 0)), (5, (3, 55, 0, 145, 3)), (8, (3, 53, 0, 7, 9)), (11, (1, 18, 0, 0, 0)), (12, (3, 57, 0, 56, 1)), (15, (1, 6, 0, 2, 0))], [(16, (1, 3, 0, 2, 0)), (17, (1, 3, 0, 0, 0)), (18, (3, 39, 0, 10, 0)), (21, (3, 55, 1, 57, 2)), (24, (3, 30, 0, 35, 0)), (27, (1, 3, 0, 0, 0)), (28, (3, 39, 0, 10, 0)), (31, (3, 55, 1, 69, 1))], [(34, (1, 62, 0, 0, 0)), (35, (1, 3, 0, 0, 0)), (36, (1, 3, 0, 2, 0)), (37, (3, 55, 0, 146, 2)), (40, (1, 3, 0, 0, 0)), (41, (3, 39, 0, 10, 3)), (44, (3, 38, 0, 7, 5)), (47, (1, 62, 0, 0, 0))]]
abbrev m_Y_law : Nat := 96
def t_Y_law : List (List (Nat × pE)) := [[(0, (1, 3, 0, 0, 0)), (1, (1, 2, 0, 1, 0)), (2, (3, 0, 150, 0, 0)), (5, (3, 55, 0, 145, 3)), (8, (3, 53, 0, 1, 4)), (11, (1, 18, 0, 0, 0)), (12, (3, 57, 0, 5, 1)), (15, (1, 6, 0, 2, 0))], [(16, (1, 3, 0, 2, 0)), (17, (1, 3, 0, 0, 0)), (18, (3, 39, 0, 10, 0)), (21, (3, 55, 1, 12, 2)), (24, (3, 30, 0, 35, 0)), (27, (1, 3, 0, 0, 0)), (28, (3, 39, 0, 10, 0)), (31, (3, 55, 1, 69, 1))], [(34, (1, 62, 0, 0, 0)), (35, (1, 3, 0, 0, 0)), (36, (1, 3, 0, 2, 0)), (37, (3, 42, 0, 10, 4)), (40, (1, 0, 1, 0, 0)), (41, (1, 62, 0, 0, 0))]]
abbrev m_Y_work : Nat := 97
def t_Y_work : List (List (Nat × pE)) := [[(0, (1, 3, 0, 0, 0)), (1, (1, 2, 0, 1, 0)), (2, (3, 0, 150, 0, 0)), (5, (3, 55, 0, 145, 3)), (8, (1, 3, 0, 0, 0)), (9, (3, 38, 0, 10, 9)), (12, (2, 0, 16, 0, 0)), (14, (3, 25, 0, 20, 0))], [(17, (2, 0, (-20), 0, 0)), (19, (1, 62, 0, 0, 0)), (20, (3, 53, 0, 9, 9)), (23, (1, 18, 0, 0, 0)), (24, (3, 57, 0, 82, 1)), (27, (1, 6, 0, 2, 0)), (28, (1, 3, 0, 2, 0)), (29, (1, 3, 0, 0, 0)), (30, (3, 39, 0, 10, 0))], [(33, (1, 3, 0, 0, 0)), (34, (3, 39, 0, 10, 3)), (37, (3, 55, 1, 83, 3)), (40, (3, 30, 0, 51, 0)), (43, (1, 3, 0, 0, 0)), (44, (3, 39, 0, 10, 0)), (47, (3, 55, 1, 69, 1))], [(50, (1, 62, 0, 0, 0)), (51, (1, 3, 0, 0, 0)), (52, (1, 3, 0, 0, 0)), (53, (3, 55, 3, 147, 1)), (56, (3, 42, 0, 10, 8)), (59, (1, 3, 0, 0, 0)), (60, (1, 18, 0, 0, 0)), (61, (3, 38, 0, 10, 9))], [(64, (1, 0, 1, 0, 0)), (65, (1, 9, 0, 0, 0)), (66, (3, 41, 0, 10, 9)), (69, (1, 3, 0, 2, 0)), (70, (1, 3, 0, 0, 0)), (71, (3, 39, 0, 10, 6)), (74, (1, 3, 0, 0, 0)), (75, (3, 39, 0, 10, 4)), (78, (3, 55, 0, 89, 3))], [(81, (1, 3, 0, 0, 0)), (82, (1, 3, 0, 2, 0)), (83, (3, 38, 0, 9, 8)), (86, (3, 41, 0, 10, 11)), (89, (1, 3, 0, 2, 0)), (90, (3, 38, 0, 9, 7)), (93, (1, 62, 0, 0, 0))]]
abbrev m_Y_book : Nat := 98
def t_Y_book : List (List (Nat × pE)) := [[(0, (1, 3, 0, 0, 0)), (1, (1, 2, 0, 1, 0)), (2, (2, 0, 100, 0, 0)), (4, (3, 55, 0, 145, 3)), (7, (3, 53, 0, 0, 3)), (10, (1, 18, 0, 0, 0)), (11, (3, 57, 0, 0, 1)), (14, (1, 6, 0, 2, 0)), (15, (1, 3, 0, 2, 0))], [(16, (1, 3, 0, 0, 0)), (17, (3, 39, 0, 10, 0)), (20, (1, 3, 0, 0, 0)), (21, (3, 39, 0, 10, 3)), (24, (3, 38, 0, 7, 4)), (27, (3, 55, 1, 3, 3)), (30, (3, 30, 0, 41, 0))], [(33, (1, 3, 0, 0, 0)), (34, (3, 39, 0, 10, 0)), (37, (3, 55, 1, 69, 1)), (40, (1, 62, 0, 0, 0)), (41, (1, 3, 0, 0, 0)), (42, (1, 3, 0, 2, 0)), (43, (3, 42, 0, 10, 5)), (46, (1, 3, 0, 0, 0)), (47, (3, 39, 0, 10, 5))], [(50, (3, 38, 0, 0, 2)), (53, (1, 62, 0, 0, 0))]]
abbrev m_Y_fault : Nat := 99
def t_Y_fault : List (List (Nat × pE)) := [[(0, (1, 3, 0, 0, 0)), (1, (3, 39, 0, 10, 0)), (4, (3, 38, 0, 8, 2)), (7, (1, 62, 0, 0, 0))]]
abbrev m_Y_undo : Nat := 100
def t_Y_undo : List (List (Nat × pE)) := [[(0, (1, 3, 0, 0, 0)), (1, (3, 40, 0, 10, 8)), (4, (3, 36, 0, 9, 0)), (7, (1, 0, (-1), 0, 0)), (8, (1, 62, 0, 0, 0)), (9, (1, 3, 0, 0, 0)), (10, (1, 3, 0, 0, 0)), (11, (3, 40, 0, 10, 8)), (14, (3, 55, 0, 148, 2))], [(17, (1, 3, 0, 0, 0)), (18, (3, 38, 0, 10, 9)), (21, (1, 62, 0, 0, 0))]]
abbrev m_Y_image : Nat := 101
def t_Y_image : List (List (Nat × pE)) := [[(0, (1, 3, 0, 0, 0)), (1, (3, 38, 0, 10, 10)), (4, (1, 0, 3, 0, 0)), (5, (3, 25, 0, 10, 0)), (8, (1, 0, (-1), 0, 0)), (9, (1, 62, 0, 0, 0)), (10, (1, 3, 0, 0, 0)), (11, (3, 39, 0, 10, 2)), (14, (1, 3, 0, 0, 0)), (15, (3, 38, 0, 10, 10))], [(18, (1, 3, 0, 0, 0)), (19, (3, 55, 3, 147, 1)), (22, (1, 48, 0, 0, 0)), (23, (1, 3, 0, 0, 0)), (24, (1, 18, 0, 0, 0)), (25, (3, 38, 0, 10, 10)), (28, (1, 0, 1, 0, 0)), (29, (1, 9, 0, 0, 0)), (30, (3, 41, 0, 10, 10))], [(33, (1, 3, 0, 0, 0)), (34, (3, 38, 0, 10, 10)), (37, (1, 62, 0, 0, 0))]]
abbrev m_Y_restore : Nat := 102
def t_Y_restore : List (List (Nat × pE)) := [[(0, (1, 3, 0, 0, 0)), (1, (3, 38, 0, 10, 10)), (4, (3, 34, 0, 15, 0)), (7, (1, 3, 0, 0, 0)), (8, (3, 38, 0, 10, 10)), (11, (1, 0, 3, 0, 0)), (12, (3, 28, 0, 17, 0)), (15, (1, 0, (-1), 0, 0))], [(16, (1, 62, 0, 0, 0)), (17, (1, 3, 0, 0, 0)), (18, (1, 18, 0, 0, 0)), (19, (3, 38, 0, 10, 10)), (22, (1, 0, 1, 0, 0)), (23, (1, 9, 0, 0, 1)), (24, (3, 41, 0, 10, 10)), (27, (1, 3, 0, 0, 0)), (28, (3, 39, 0, 10, 2)), (31, (1, 3, 0, 0, 0))], [(32, (3, 38, 0, 10, 10)), (35, (1, 47, 0, 0, 0)), (36, (1, 6, 0, 1, 0)), (37, (1, 3, 0, 0, 0)), (38, (3, 39, 0, 10, 2)), (41, (1, 3, 0, 0, 0)), (42, (3, 38, 0, 10, 10)), (45, (1, 21, 0, 0, 0)), (46, (1, 48, 0, 0, 0)), (47, (1, 3, 0, 1, 0))], [(48, (3, 35, 0, 56, 0)), (51, (1, 3, 0, 0, 0)), (52, (1, 3, 0, 1, 0)), (53, (3, 55, 0, 148, 2)), (56, (1, 3, 0, 0, 0)), (57, (3, 38, 0, 10, 10)), (60, (1, 62, 0, 0, 0))]]
abbrev m_Y_told : Nat := 103
def t_Y_told : List (List (Nat × pE)) := [[(0, (1, 2, 0, 1, 0)), (1, (59, 37, 0, 2, 0))], [], [], [(60, (1, 3, 0, 0, 0)), (61, (3, 39, 0, 10, 3))], [(64, (3, 38, 0, 7, 4)), (67, (1, 62, 0, 0, 0)), (68, (1, 3, 0, 0, 0)), (69, (3, 39, 0, 10, 3)), (72, (3, 38, 0, 7, 5)), (75, (1, 62, 0, 0, 0)), (76, (1, 3, 0, 0, 0)), (77, (3, 39, 0, 10, 3))], [(80, (3, 38, 0, 7, 6)), (83, (1, 62, 0, 0, 0)), (84, (1, 3, 0, 0, 0)), (85, (3, 39, 0, 10, 6)), (88, (3, 38, 0, 5, 6)), (91, (1, 62, 0, 0, 0)), (92, (1, 3, 0, 0, 0)), (93, (3, 39, 0, 10, 6))], [(96, (3, 38, 0, 5, 7)), (99, (1, 62, 0, 0, 0)), (100, (1, 3, 0, 0, 0)), (101, (3, 39, 0, 10, 6)), (104, (3, 55, 1, 43, 1)), (107, (1, 62, 0, 0, 0)), (108, (1, 3, 0, 0, 0)), (109, (3, 39, 0, 10, 5))], [(112, (3, 38, 0, 0, 2)), (115, (1, 62, 0, 0, 0)), (116, (1, 3, 0, 0, 0)), (117, (3, 38, 0, 10, 11)), (120, (1, 62, 0, 0, 0)), (121, (1, 3, 0, 0, 0)), (122, (3, 39, 0, 10, 6)), (125, (3, 55, 1, 48, 1))], [(128, (1, 62, 0, 0, 0)), (129, (1, 3, 0, 0, 0)), (130, (3, 39, 0, 10, 6)), (133, (3, 55, 1, 53, 1)), (136, (1, 62, 0, 0, 0)), (137, (1, 3, 0, 0, 0)), (138, (3, 39, 0, 10, 3)), (141, (3, 38, 0, 7, 7))], [(144, (1, 62, 0, 0, 0)), (145, (1, 3, 0, 0, 0)), (146, (3, 55, 1, 139, 1)), (149, (1, 62, 0, 0, 0))]]
abbrev m_Y_seat : Nat := 104
def t_Y_seat : List (List (Nat × pE)) := [[(0, (1, 3, 0, 0, 0)), (1, (1, 2, 0, 1, 0)), (2, (3, 55, 0, 142, 2)), (5, (1, 2, 0, 2, 0)), (6, (30, 37, 0, 3, 0))], [], [(36, (1, 3, 0, 0, 0)), (37, (3, 39, 0, 10, 6)), (40, (3, 39, 0, 5, 1)), (43, (1, 2, 0, 1, 0)), (44, (1, 43, 0, 0, 0)), (45, (1, 62, 0, 0, 0)), (46, (1, 3, 0, 0, 0)), (47, (3, 39, 0, 10, 6))], [(50, (1, 2, 0, 1, 0)), (51, (3, 55, 1, 44, 2)), (54, (1, 62, 0, 0, 0)), (55, (1, 3, 0, 0, 0)), (56, (3, 39, 0, 10, 6)), (59, (1, 2, 0, 1, 0)), (60, (3, 55, 1, 47, 2)), (63, (1, 62, 0, 0, 0))], [(64, (1, 3, 0, 0, 0)), (65, (3, 39, 0, 10, 6)), (68, (1, 2, 0, 1, 0)), (69, (3, 55, 1, 51, 2)), (72, (1, 62, 0, 0, 0)), (73, (1, 3, 0, 0, 0)), (74, (3, 55, 1, 139, 1)), (77, (1, 62, 0, 0, 0))]]
abbrev m_Y_sitter : Nat := 105
def t_Y_sitter : List (List (Nat × pE)) := [[(0, (1, 3, 0, 0, 0)), (1, (1, 2, 0, 1, 0)), (2, (3, 55, 0, 143, 2)), (5, (1, 2, 0, 2, 0)), (6, (46, 37, 0, 4, 0))], [], [], [(52, (1, 3, 0, 0, 0)), (53, (3, 39, 0, 10, 3)), (56, (3, 39, 0, 7, 1)), (59, (1, 2, 0, 1, 0)), (60, (1, 43, 0, 0, 0)), (61, (1, 62, 0, 0, 0)), (62, (1, 3, 0, 0, 0)), (63, (3, 39, 0, 10, 3))], [(66, (3, 39, 0, 7, 2)), (69, (1, 2, 0, 1, 0)), (70, (1, 43, 0, 0, 0)), (71, (1, 62, 0, 0, 0)), (72, (1, 3, 0, 0, 0)), (73, (3, 39, 0, 10, 6)), (76, (3, 39, 0, 5, 2)), (79, (1, 2, 0, 1, 0))], [(80, (1, 43, 0, 0, 0)), (81, (1, 62, 0, 0, 0)), (82, (1, 3, 0, 0, 0)), (83, (3, 39, 0, 10, 6)), (86, (3, 39, 0, 5, 3)), (89, (1, 2, 0, 1, 0)), (90, (1, 43, 0, 0, 0)), (91, (1, 62, 0, 0, 0)), (92, (1, 3, 0, 0, 0)), (93, (3, 39, 0, 10, 6))], [(96, (3, 39, 0, 5, 4)), (99, (1, 2, 0, 1, 0)), (100, (1, 43, 0, 0, 0)), (101, (1, 62, 0, 0, 0)), (102, (1, 3, 0, 0, 0)), (103, (3, 39, 0, 10, 6)), (106, (1, 2, 0, 1, 0)), (107, (3, 55, 1, 50, 2)), (110, (1, 62, 0, 0, 0)), (111, (1, 3, 0, 0, 0))], [(112, (3, 39, 0, 10, 6)), (115, (1, 2, 0, 1, 0)), (116, (3, 55, 1, 52, 2)), (119, (1, 62, 0, 0, 0)), (120, (1, 3, 0, 0, 0)), (121, (3, 39, 0, 10, 6)), (124, (1, 2, 0, 1, 0)), (125, (3, 55, 1, 49, 2))], [(128, (1, 62, 0, 0, 0)), (129, (1, 3, 0, 0, 0)), (130, (3, 55, 1, 139, 1)), (133, (1, 62, 0, 0, 0))]]
abbrev m_Y_plate : Nat := 106
def t_Y_plate : List (List (Nat × pE)) := [[(0, (1, 3, 0, 0, 0)), (1, (1, 2, 0, 1, 0)), (2, (3, 55, 0, 142, 2)), (5, (1, 3, 0, 0, 0)), (6, (1, 2, 0, 2, 0)), (7, (3, 55, 0, 143, 2)), (10, (1, 3, 0, 0, 0)), (11, (3, 39, 0, 10, 6)), (14, (1, 2, 0, 1, 0)), (15, (1, 2, 0, 2, 0))], [(16, (3, 55, 1, 46, 3)), (19, (1, 62, 0, 0, 0))]]
abbrev m_Y_sitting : Nat := 107
def t_Y_sitting : List (List (Nat × pE)) := [[(0, (1, 3, 0, 0, 0)), (1, (1, 2, 0, 1, 0)), (2, (3, 55, 0, 144, 2)), (5, (1, 3, 0, 0, 0)), (6, (3, 39, 0, 10, 3)), (9, (3, 39, 0, 7, 3)), (12, (1, 2, 0, 1, 0)), (13, (1, 43, 0, 0, 0)), (14, (1, 62, 0, 0, 0))]]
abbrev m_Y_mark : Nat := 108
def t_Y_mark : List (List (Nat × pE)) := [[(0, (1, 3, 0, 0, 0)), (1, (1, 2, 0, 1, 0)), (2, (3, 55, 0, 143, 2)), (5, (1, 3, 0, 0, 0)), (6, (3, 39, 0, 10, 6)), (9, (1, 3, 0, 0, 0)), (10, (3, 39, 0, 10, 4)), (13, (1, 2, 0, 1, 0)), (14, (3, 55, 1, 40, 3))], [(17, (1, 62, 0, 0, 0))]]
abbrev m_Y_would : Nat := 109
def t_Y_would : List (List (Nat × pE)) := [[(0, (1, 3, 0, 0, 0)), (1, (1, 2, 0, 1, 0)), (2, (1, 0, 0, 0, 0)), (3, (2, 0, 9, 0, 0)), (5, (3, 55, 0, 141, 4)), (8, (1, 3, 0, 0, 0)), (9, (1, 2, 0, 2, 0)), (10, (1, 0, 1, 0, 0)), (11, (2, 0, 9, 0, 0)), (13, (3, 55, 0, 141, 4))], [(16, (1, 3, 0, 0, 0)), (17, (1, 2, 0, 3, 0)), (18, (1, 0, 0, 0, 0)), (19, (3, 0, 999, 0, 0)), (22, (3, 55, 0, 141, 4)), (25, (1, 3, 0, 0, 0)), (26, (2, 2, 0, 4, 0)), (28, (1, 0, 0, 0, 0)), (29, (2, 0, 99, 0, 0)), (31, (3, 55, 0, 141, 4))], [(34, (1, 3, 0, 0, 0)), (35, (2, 2, 0, 5, 0)), (37, (1, 0, 0, 0, 0)), (38, (2, 0, 7, 0, 0)), (40, (3, 55, 0, 141, 4)), (43, (1, 3, 0, 0, 0)), (44, (2, 2, 0, 6, 0)), (46, (1, 0, 0, 0, 0)), (47, (1, 0, 5, 0, 0))], [(48, (3, 55, 0, 141, 4)), (51, (1, 3, 0, 0, 0)), (52, (2, 2, 0, 7, 0)), (54, (1, 0, 0, 0, 0)), (55, (1, 0, 5, 0, 0)), (56, (3, 55, 0, 141, 4)), (59, (1, 3, 0, 0, 0)), (60, (2, 2, 0, 8, 0)), (62, (1, 0, 0, 0, 0)), (63, (3, 0, 800, 0, 0))], [(66, (3, 55, 0, 141, 4)), (69, (1, 3, 0, 0, 0)), (70, (3, 39, 0, 10, 4)), (73, (1, 2, 0, 1, 0)), (74, (2, 2, 0, 5, 0)), (76, (1, 2, 0, 3, 0)), (77, (3, 55, 0, 6, 4))], [(80, (1, 3, 0, 0, 0)), (81, (3, 39, 0, 10, 4)), (84, (2, 2, 0, 6, 0)), (86, (1, 2, 0, 2, 0)), (87, (2, 2, 0, 4, 0)), (89, (3, 55, 0, 7, 4)), (92, (1, 3, 0, 0, 0)), (93, (3, 39, 0, 10, 4))], [(96, (2, 2, 0, 7, 0)), (98, (2, 2, 0, 8, 0)), (100, (3, 55, 0, 8, 3)), (103, (1, 3, 0, 0, 0)), (104, (3, 39, 0, 10, 4)), (107, (3, 55, 1, 9, 1)), (110, (1, 62, 0, 0, 0))]]
abbrev m_Y_share : Nat := 110
def t_Y_share : List (List (Nat × pE)) := [[(0, (1, 3, 0, 0, 0)), (1, (1, 2, 0, 1, 0)), (2, (3, 55, 0, 142, 2)), (5, (1, 3, 0, 0, 0)), (6, (1, 2, 0, 2, 0)), (7, (3, 55, 0, 143, 2)), (10, (1, 3, 0, 0, 0)), (11, (1, 2, 0, 3, 0)), (12, (1, 0, 0, 0, 0)), (13, (1, 0, 1, 0, 0)), (14, (3, 55, 0, 141, 4))], [(17, (1, 3, 0, 0, 0)), (18, (3, 39, 0, 10, 6)), (21, (1, 2, 0, 1, 0)), (22, (1, 2, 0, 2, 0)), (23, (3, 55, 1, 46, 3)), (26, (2, 5, 0, 4, 0)), (28, (1, 3, 0, 0, 0)), (29, (3, 39, 0, 10, 6))], [(32, (1, 2, 0, 1, 0)), (33, (3, 55, 1, 47, 2)), (36, (2, 5, 0, 5, 0)), (38, (2, 2, 0, 4, 0)), (40, (2, 2, 0, 5, 0)), (42, (3, 56, 1, 159, 2)), (45, (2, 5, 0, 6, 0)), (47, (2, 2, 0, 4, 0))], [(49, (3, 29, 0, 57, 0)), (52, (2, 2, 0, 6, 0)), (54, (3, 30, 0, 67, 0)), (57, (1, 2, 0, 3, 0)), (58, (3, 30, 0, 65, 0)), (61, (1, 0, 0, 0, 0)), (62, (3, 22, 0, 66, 0))], [(65, (1, 0, 1, 0, 0)), (66, (1, 62, 0, 0, 0)), (67, (1, 2, 0, 3, 0)), (68, (3, 30, 0, 79, 0)), (71, (2, 2, 0, 4, 0)), (73, (2, 2, 0, 6, 0)), (75, (1, 10, 0, 0, 0)), (76, (3, 22, 0, 84, 0)), (79, (2, 2, 0, 5, 0))], [(81, (2, 2, 0, 6, 0)), (83, (1, 10, 0, 0, 0)), (84, (1, 62, 0, 0, 0))]]
abbrev m_Y_ahead : Nat := 111
def t_Y_ahead : List (List (Nat × pE)) := [[(0, (1, 3, 0, 0, 0)), (1, (1, 2, 0, 1, 0)), (2, (1, 0, 0, 0, 0)), (3, (2, 0, 99, 0, 0)), (5, (3, 55, 0, 141, 4)), (8, (1, 3, 0, 0, 0)), (9, (1, 2, 0, 2, 0)), (10, (1, 0, 0, 0, 0)), (11, (1, 0, 2, 0, 0)), (12, (3, 55, 0, 141, 4)), (15, (1, 3, 0, 0, 0))], [(16, (3, 39, 0, 10, 7)), (19, (1, 3, 0, 0, 0)), (20, (3, 39, 0, 10, 6)), (23, (3, 55, 0, 33, 2)), (26, (1, 0, 0, 0, 0)), (27, (1, 5, 0, 3, 0)), (28, (1, 2, 0, 3, 0)), (29, (1, 2, 0, 1, 0)), (30, (3, 26, 0, 50, 0))], [(33, (1, 3, 0, 0, 0)), (34, (3, 39, 0, 10, 7)), (37, (1, 3, 0, 0, 0)), (38, (3, 39, 0, 10, 4)), (41, (3, 55, 0, 38, 2)), (44, (3, 8, 1, 3, 0)), (47, (3, 22, 0, 28, 0))], [(50, (1, 2, 0, 2, 0)), (51, (25, 37, 1, 5, 0))], [(76, (1, 3, 0, 0, 0)), (77, (3, 39, 0, 10, 7))], [(80, (3, 55, 1, 48, 1)), (83, (1, 62, 0, 0, 0)), (84, (1, 3, 0, 0, 0)), (85, (3, 39, 0, 10, 7)), (88, (3, 55, 1, 43, 1)), (91, (1, 62, 0, 0, 0)), (92, (1, 3, 0, 0, 0)), (93, (3, 39, 0, 10, 7))], [(96, (3, 55, 1, 53, 1)), (99, (1, 62, 0, 0, 0))]]
abbrev m_Y_when : Nat := 112
def t_Y_when : List (List (Nat × pE)) := [[(0, (1, 3, 0, 0, 0)), (1, (1, 2, 0, 1, 0)), (2, (3, 55, 0, 143, 2)), (5, (1, 3, 0, 0, 0)), (6, (3, 39, 0, 10, 6)), (9, (3, 39, 0, 5, 2)), (12, (1, 2, 0, 1, 0)), (13, (1, 43, 0, 0, 0)), (14, (1, 5, 0, 2, 0)), (15, (1, 2, 0, 2, 0))], [(16, (1, 0, (-1), 0, 0)), (17, (3, 24, 0, 22, 0)), (20, (1, 0, (-1), 0, 0)), (21, (1, 62, 0, 0, 0)), (22, (1, 3, 0, 0, 0)), (23, (3, 39, 0, 10, 7)), (26, (1, 3, 0, 0, 0)), (27, (3, 39, 0, 10, 6)), (30, (3, 55, 0, 33, 2))], [(33, (1, 0, 0, 0, 0)), (34, (1, 5, 0, 3, 0)), (35, (1, 2, 0, 3, 0)), (36, (3, 0, 200, 0, 0)), (39, (3, 27, 0, 73, 0)), (42, (1, 3, 0, 0, 0)), (43, (3, 39, 0, 10, 7)), (46, (1, 2, 0, 2, 0)), (47, (3, 55, 1, 51, 2))], [(50, (1, 2, 0, 1, 0)), (51, (3, 24, 0, 56, 0)), (54, (1, 2, 0, 3, 0)), (55, (1, 62, 0, 0, 0)), (56, (1, 3, 0, 0, 0)), (57, (3, 39, 0, 10, 7)), (60, (1, 3, 0, 0, 0)), (61, (3, 39, 0, 10, 4))], [(64, (3, 55, 0, 38, 2)), (67, (3, 8, 1, 3, 0)), (70, (3, 22, 0, 35, 0)), (73, (1, 0, (-1), 0, 0)), (74, (1, 62, 0, 0, 0))]]
abbrev m_Y_meals : Nat := 113
def t_Y_meals : List (List (Nat × pE)) := [[(0, (1, 3, 0, 0, 0)), (1, (1, 2, 0, 1, 0)), (2, (3, 55, 0, 143, 2)), (5, (1, 3, 0, 0, 0)), (6, (1, 2, 0, 2, 0)), (7, (1, 0, 0, 0, 0)), (8, (3, 0, 400, 0, 0)), (11, (3, 55, 0, 141, 4)), (14, (1, 3, 0, 0, 0)), (15, (1, 2, 0, 1, 0))], [(16, (1, 2, 0, 2, 0)), (17, (3, 55, 1, 149, 3)), (20, (1, 62, 0, 0, 0))]]
abbrev m_Y_need : Nat := 114
def t_Y_need : List (List (Nat × pE)) := [[(0, (1, 3, 0, 0, 0)), (1, (1, 2, 0, 1, 0)), (2, (1, 0, 0, 0, 0)), (3, (3, 0, 400, 0, 0)), (6, (3, 55, 0, 141, 4)), (9, (1, 0, 0, 0, 0)), (10, (1, 5, 0, 2, 0)), (11, (1, 0, 0, 0, 0)), (12, (1, 5, 0, 3, 0)), (13, (1, 2, 0, 3, 0)), (14, (1, 3, 0, 0, 0)), (15, (3, 39, 0, 10, 3))], [(18, (3, 38, 0, 7, 5)), (21, (3, 26, 0, 50, 0)), (24, (1, 3, 0, 0, 0)), (25, (3, 39, 0, 10, 6)), (28, (1, 2, 0, 3, 0)), (29, (3, 55, 1, 42, 2))], [(32, (3, 29, 0, 44, 0)), (35, (1, 2, 0, 2, 0)), (36, (1, 3, 0, 0, 0)), (37, (1, 2, 0, 3, 0)), (38, (1, 2, 0, 1, 0)), (39, (3, 55, 1, 149, 3)), (42, (1, 9, 0, 0, 0)), (43, (1, 5, 0, 2, 0)), (44, (3, 8, 1, 3, 0)), (47, (3, 22, 0, 13, 0))], [(50, (1, 2, 0, 2, 0)), (51, (1, 62, 0, 0, 0))]]
abbrev m_Y_rising : Nat := 115
def t_Y_rising : List (List (Nat × pE)) := [[(0, (1, 3, 0, 0, 0)), (1, (1, 2, 0, 1, 0)), (2, (3, 55, 0, 143, 2)), (5, (1, 3, 0, 0, 0)), (6, (3, 39, 0, 10, 6)), (9, (1, 2, 0, 1, 0)), (10, (3, 55, 1, 42, 2)), (13, (3, 30, 0, 18, 0))], [(16, (1, 0, (-1), 0, 0)), (17, (1, 62, 0, 0, 0)), (18, (1, 0, 1, 0, 0)), (19, (1, 3, 0, 0, 0)), (20, (3, 39, 0, 10, 3)), (23, (3, 39, 0, 7, 2)), (26, (1, 2, 0, 1, 0)), (27, (1, 43, 0, 0, 0)), (28, (1, 3, 0, 0, 0)), (29, (3, 39, 0, 10, 6))], [(32, (3, 39, 0, 5, 4)), (35, (1, 2, 0, 1, 0)), (36, (1, 43, 0, 0, 0)), (37, (1, 9, 0, 0, 1)), (38, (1, 0, 1, 0, 0)), (39, (1, 9, 0, 0, 0)), (40, (3, 68, 0, 0, 0)), (43, (1, 62, 0, 0, 0))]]
abbrev m_Y_gains : Nat := 116
def t_Y_gains : List (List (Nat × pE)) := [[(0, (1, 3, 0, 0, 0)), (1, (1, 2, 0, 1, 0)), (2, (3, 55, 0, 143, 2)), (5, (1, 3, 0, 0, 0)), (6, (1, 2, 0, 2, 0)), (7, (3, 55, 0, 142, 2)), (10, (1, 3, 0, 0, 0)), (11, (3, 39, 0, 10, 6)), (14, (1, 2, 0, 1, 0)), (15, (3, 55, 1, 42, 2))], [(18, (3, 29, 0, 33, 0)), (21, (1, 3, 0, 0, 0)), (22, (3, 39, 0, 10, 6)), (25, (1, 2, 0, 2, 0)), (26, (3, 55, 1, 44, 2)), (29, (1, 0, (-1), 0, 0)), (30, (3, 23, 0, 36, 0))], [(33, (2, 0, (-100), 0, 0)), (35, (1, 62, 0, 0, 0)), (36, (1, 3, 0, 0, 0)), (37, (3, 39, 0, 10, 6)), (40, (3, 55, 1, 43, 1)), (43, (3, 56, 1, 310, 1)), (46, (1, 0, 1, 0, 0)), (47, (1, 9, 0, 0, 1))], [(48, (1, 5, 0, 3, 0)), (49, (1, 3, 0, 0, 0)), (50, (3, 39, 0, 10, 6)), (53, (1, 3, 0, 0, 0)), (54, (3, 39, 0, 10, 4)), (57, (1, 2, 0, 1, 0)), (58, (1, 2, 0, 2, 0)), (59, (1, 0, 0, 0, 0)), (60, (1, 2, 0, 3, 0)), (61, (3, 55, 1, 39, 6))], [(64, (1, 3, 0, 0, 0)), (65, (3, 39, 0, 10, 6)), (68, (1, 3, 0, 0, 0)), (69, (3, 39, 0, 10, 4)), (72, (1, 2, 0, 1, 0)), (73, (3, 55, 1, 40, 3)), (76, (1, 9, 0, 0, 1)), (77, (1, 62, 0, 0, 0))]]
abbrev m_Y_goings : Nat := 117
def t_Y_goings : List (List (Nat × pE)) := [[(0, (1, 3, 0, 0, 0)), (1, (1, 2, 0, 1, 0)), (2, (3, 55, 0, 143, 2)), (5, (1, 3, 0, 0, 0)), (6, (1, 2, 0, 2, 0)), (7, (1, 0, 0, 0, 0)), (8, (1, 0, 1, 0, 0)), (9, (3, 55, 0, 141, 4)), (12, (1, 0, 0, 0, 0)), (13, (1, 5, 0, 3, 1)), (14, (1, 1, 1, 0, 0)), (15, (2, 7, 0, 4, 0))], [(17, (1, 0, 0, 0, 0)), (18, (2, 5, 0, 6, 1)), (20, (2, 2, 0, 6, 0)), (22, (1, 3, 0, 0, 0)), (23, (3, 39, 0, 10, 3)), (26, (3, 38, 0, 7, 4)), (29, (3, 26, 0, 85, 0))], [(32, (1, 3, 0, 0, 0)), (33, (1, 2, 0, 1, 0)), (34, (2, 2, 0, 6, 0)), (36, (3, 55, 1, 150, 3)), (39, (2, 5, 0, 7, 1)), (41, (2, 2, 0, 7, 0)), (43, (1, 0, (-1), 0, 0)), (44, (3, 24, 0, 57, 0)), (47, (1, 2, 0, 2, 0))], [(48, (3, 30, 0, 55, 0)), (51, (1, 0, 0, 0, 0)), (52, (3, 22, 0, 56, 0)), (55, (1, 0, (-1), 0, 0)), (56, (1, 62, 0, 0, 0)), (57, (1, 2, 0, 3, 0)), (58, (2, 2, 0, 7, 0)), (60, (1, 9, 0, 0, 0)), (61, (1, 5, 0, 3, 1)), (62, (3, 1, 1000000000, 0, 0))], [(65, (2, 4, 0, 4, 0)), (67, (1, 2, 0, 3, 0)), (68, (2, 2, 0, 7, 0)), (70, (3, 56, 2, 151, 2)), (73, (1, 12, 0, 0, 0)), (74, (3, 70, 0, 0, 0)), (77, (2, 7, 0, 4, 0)), (79, (3, 8, 1, 6, 1))], [(82, (3, 22, 0, 20, 0)), (85, (1, 2, 0, 2, 0)), (86, (3, 30, 0, 95, 0)), (89, (2, 4, 0, 4, 0)), (91, (1, 16, 0, 0, 0)), (92, (3, 22, 0, 96, 0)), (95, (1, 2, 0, 3, 0))], [(96, (1, 62, 0, 0, 0))]]
abbrev m_Y_bright : Nat := 118
def t_Y_bright : List (List (Nat × pE)) := [[(0, (1, 3, 0, 0, 0)), (1, (1, 2, 0, 1, 0)), (2, (3, 55, 0, 143, 2)), (5, (1, 0, (-1), 0, 0)), (6, (1, 5, 0, 2, 0)), (7, (1, 0, (-1), 0, 0)), (8, (1, 5, 0, 3, 0)), (9, (1, 0, 0, 0, 0)), (10, (2, 5, 0, 4, 0)), (12, (2, 2, 0, 4, 0)), (14, (1, 3, 0, 0, 0)), (15, (3, 39, 0, 10, 3))], [(18, (3, 38, 0, 7, 4)), (21, (3, 26, 0, 70, 0)), (24, (1, 3, 0, 0, 0)), (25, (3, 39, 0, 10, 6)), (28, (1, 3, 0, 0, 0)), (29, (3, 39, 0, 10, 4))], [(32, (1, 2, 0, 1, 0)), (33, (2, 2, 0, 4, 0)), (35, (3, 55, 1, 41, 4)), (38, (2, 5, 0, 5, 0)), (40, (1, 3, 0, 0, 0)), (41, (3, 39, 0, 10, 5)), (44, (2, 2, 0, 4, 0)), (46, (3, 55, 1, 1, 2))], [(49, (3, 30, 0, 64, 0)), (52, (2, 2, 0, 5, 0)), (54, (1, 2, 0, 3, 0)), (55, (3, 28, 0, 64, 0)), (58, (2, 2, 0, 4, 0)), (60, (1, 5, 0, 2, 0)), (61, (2, 2, 0, 5, 0)), (63, (1, 5, 0, 3, 0))], [(64, (3, 8, 1, 4, 0)), (67, (3, 22, 0, 12, 0)), (70, (1, 2, 0, 2, 0)), (71, (1, 62, 0, 0, 0))]]
abbrev m_Y_places : Nat := 119
def t_Y_places : List (List (Nat × pE)) := [[(0, (1, 3, 0, 0, 0)), (1, (3, 39, 0, 10, 3)), (4, (3, 38, 0, 7, 4)), (7, (1, 3, 0, 0, 0)), (8, (3, 39, 0, 10, 3)), (11, (3, 38, 0, 7, 5)), (14, (3, 26, 0, 19, 0))], [(17, (1, 0, (-1), 0, 0)), (18, (1, 62, 0, 0, 0)), (19, (1, 3, 0, 0, 0)), (20, (3, 39, 0, 10, 1)), (23, (1, 3, 0, 0, 0)), (24, (3, 39, 0, 10, 6)), (27, (1, 3, 0, 0, 0)), (28, (3, 39, 0, 10, 4)), (31, (3, 55, 0, 26, 3))], [(34, (1, 3, 0, 0, 0)), (35, (3, 39, 0, 10, 1)), (38, (3, 55, 1, 29, 1)), (41, (1, 62, 0, 0, 0))]]
abbrev m_Y_placed : Nat := 120
def t_Y_placed : List (List (Nat × pE)) := [[(0, (1, 3, 0, 0, 0)), (1, (1, 2, 0, 1, 0)), (2, (3, 55, 0, 143, 2)), (5, (1, 3, 0, 0, 0)), (6, (3, 39, 0, 10, 3)), (9, (3, 38, 0, 7, 4)), (12, (1, 3, 0, 0, 0)), (13, (3, 39, 0, 10, 3))], [(16, (3, 38, 0, 7, 5)), (19, (3, 26, 0, 24, 0)), (22, (1, 0, (-1), 0, 0)), (23, (1, 62, 0, 0, 0)), (24, (1, 3, 0, 0, 0)), (25, (3, 39, 0, 10, 1)), (28, (1, 3, 0, 0, 0)), (29, (3, 39, 0, 10, 6))], [(32, (1, 3, 0, 0, 0)), (33, (3, 39, 0, 10, 4)), (36, (3, 55, 0, 26, 3)), (39, (1, 3, 0, 0, 0)), (40, (3, 39, 0, 10, 1)), (43, (1, 2, 0, 1, 0)), (44, (3, 55, 1, 30, 2)), (47, (1, 62, 0, 0, 0))]]
abbrev m_Y_packing : Nat := 121
def t_Y_packing : List (List (Nat × pE)) := [[(0, (3, 53, 0, 3, 5)), (3, (1, 18, 0, 0, 0)), (4, (1, 3, 0, 0, 0)), (5, (3, 39, 0, 10, 3)), (8, (3, 57, 0, 21, 2)), (11, (1, 6, 0, 1, 0)), (12, (1, 3, 0, 1, 0)), (13, (3, 55, 0, 23, 1))], [(16, (1, 3, 0, 1, 0)), (17, (3, 55, 1, 22, 1)), (20, (3, 29, 0, 30, 0)), (23, (1, 3, 0, 1, 0)), (24, (3, 38, 0, 3, 4)), (27, (3, 22, 0, 31, 0)), (30, (1, 0, (-1), 0, 0)), (31, (1, 62, 0, 0, 0))]]
abbrev m_Y_packed : Nat := 122
def t_Y_packed : List (List (Nat × pE)) := [[(0, (1, 3, 0, 0, 0)), (1, (1, 2, 0, 1, 0)), (2, (3, 55, 0, 144, 2)), (5, (3, 53, 0, 3, 5)), (8, (1, 18, 0, 0, 0)), (9, (1, 3, 0, 0, 0)), (10, (3, 39, 0, 10, 3)), (13, (3, 57, 0, 21, 2))], [(16, (1, 6, 0, 2, 0)), (17, (1, 3, 0, 2, 0)), (18, (3, 55, 0, 23, 1)), (21, (1, 3, 0, 2, 0)), (22, (3, 55, 1, 22, 1)), (25, (3, 29, 0, 37, 0)), (28, (1, 3, 0, 2, 0)), (29, (3, 39, 0, 3, 3))], [(32, (1, 2, 0, 1, 0)), (33, (1, 43, 0, 0, 0)), (34, (3, 22, 0, 38, 0)), (37, (1, 0, (-1), 0, 0)), (38, (1, 62, 0, 0, 0))]]
abbrev m_Y_well : Nat := 123
def t_Y_well : List (List (Nat × pE)) := [[(0, (1, 3, 0, 0, 0)), (1, (1, 2, 0, 1, 0)), (2, (1, 0, 0, 0, 0)), (3, (2, 0, 16, 0, 0)), (5, (3, 55, 0, 141, 4)), (8, (1, 3, 0, 0, 0)), (9, (1, 2, 0, 2, 0)), (10, (1, 0, 0, 0, 0)), (11, (2, 0, 12, 0, 0)), (13, (3, 55, 0, 141, 4))], [(16, (1, 3, 0, 0, 0)), (17, (1, 2, 0, 3, 0)), (18, (1, 0, 0, 0, 0)), (19, (1, 0, 1, 0, 0)), (20, (3, 55, 0, 141, 4)), (23, (2, 0, 16, 0, 0)), (25, (1, 2, 0, 1, 0)), (26, (1, 9, 0, 0, 1)), (27, (2, 5, 0, 4, 1)), (29, (1, 0, 1, 0, 0)), (30, (2, 2, 0, 4, 0))], [(32, (2, 0, 16, 0, 0)), (34, (3, 56, 1, 159, 2)), (37, (3, 68, 0, 0, 0)), (40, (2, 5, 0, 5, 1)), (42, (1, 2, 0, 3, 0)), (43, (3, 30, 0, 55, 0)), (46, (2, 2, 0, 4, 0))], [(48, (2, 2, 0, 5, 0)), (50, (1, 10, 0, 0, 0)), (51, (1, 15, 0, 0, 0)), (52, (3, 22, 0, 61, 0)), (55, (2, 0, 16, 0, 0)), (57, (2, 2, 0, 5, 0)), (59, (1, 10, 0, 0, 0)), (60, (1, 15, 0, 0, 0)), (61, (2, 7, 0, 6, 0)), (63, (1, 1, 1, 0, 0))], [(64, (2, 7, 0, 8, 0)), (66, (1, 0, 0, 0, 0)), (67, (2, 5, 0, 10, 1)), (69, (2, 2, 0, 10, 0)), (71, (1, 2, 0, 2, 0)), (72, (3, 26, 0, 88, 0)), (75, (2, 4, 0, 8, 0)), (77, (2, 4, 0, 6, 0)), (79, (1, 12, 0, 0, 0))], [(80, (2, 7, 0, 8, 0)), (82, (3, 8, 1, 10, 1)), (85, (3, 22, 0, 69, 0)), (88, (2, 4, 0, 8, 0)), (90, (1, 63, 0, 0, 0))]]
abbrev m_Y_getsUp : Nat := 124
def t_Y_getsUp : List (List (Nat × pE)) := [[(0, (1, 3, 0, 0, 0)), (1, (1, 2, 0, 1, 0)), (2, (1, 0, 0, 0, 0)), (3, (2, 0, 99, 0, 0)), (5, (3, 55, 0, 141, 4)), (8, (1, 3, 0, 0, 0)), (9, (1, 2, 0, 2, 0)), (10, (1, 0, 0, 0, 0)), (11, (2, 0, 99, 0, 0)), (13, (3, 55, 0, 141, 4))], [(16, (1, 3, 0, 0, 0)), (17, (1, 2, 0, 3, 0)), (18, (1, 0, 0, 0, 0)), (19, (2, 0, 99, 0, 0)), (21, (3, 55, 0, 141, 4)), (24, (1, 3, 0, 0, 0)), (25, (2, 2, 0, 4, 0)), (27, (1, 0, 0, 0, 0)), (28, (1, 0, 2, 0, 0)), (29, (3, 55, 0, 141, 4))], [(32, (1, 0, 0, 0, 0)), (33, (2, 5, 0, 5, 0)), (35, (1, 0, (-1), 0, 0)), (36, (2, 5, 0, 6, 0)), (38, (1, 0, 0, 0, 0)), (39, (2, 5, 0, 7, 0)), (41, (1, 0, 0, 0, 0)), (42, (2, 5, 0, 8, 0)), (44, (2, 2, 0, 8, 0)), (46, (1, 0, 4, 0, 0)), (47, (3, 26, 0, 123, 0))], [(50, (2, 2, 0, 8, 0)), (52, (1, 0, 2, 0, 0)), (53, (1, 10, 0, 0, 0)), (54, (2, 5, 0, 9, 0)), (56, (2, 2, 0, 8, 0)), (58, (1, 0, 2, 0, 0)), (59, (1, 11, 0, 0, 0)), (60, (2, 5, 0, 10, 0)), (62, (1, 2, 0, 1, 0)), (63, (1, 2, 0, 2, 0))], [(64, (1, 2, 0, 3, 0)), (65, (2, 2, 0, 9, 0)), (67, (2, 2, 0, 10, 0)), (69, (3, 56, 1, 154, 5)), (72, (3, 29, 0, 117, 0)), (75, (3, 8, 1, 5, 0)), (78, (2, 2, 0, 6, 0))], [(80, (1, 0, (-1), 0, 0)), (81, (3, 24, 0, 117, 0)), (84, (2, 0, 10, 0, 0)), (86, (2, 2, 0, 9, 0)), (88, (1, 9, 0, 0, 2)), (89, (2, 2, 0, 10, 0)), (91, (1, 9, 0, 0, 0)), (92, (2, 5, 0, 6, 0)), (94, (1, 2, 0, 1, 0)), (95, (1, 2, 0, 2, 0))], [(96, (1, 2, 0, 3, 0)), (97, (2, 2, 0, 9, 0)), (99, (2, 2, 0, 10, 0)), (101, (3, 56, 1, 153, 5)), (104, (1, 2, 0, 1, 0)), (105, (1, 2, 0, 2, 0)), (106, (1, 2, 0, 3, 0)), (107, (2, 2, 0, 10, 0)), (109, (2, 2, 0, 9, 0)), (111, (3, 56, 1, 153, 5))], [(114, (1, 9, 0, 0, 0)), (115, (2, 5, 0, 7, 0)), (117, (3, 8, 1, 8, 0)), (120, (3, 22, 0, 44, 0)), (123, (2, 2, 0, 4, 0)), (125, (27, 37, 1, 6, 0))], [], [(152, (2, 2, 0, 5, 0)), (154, (1, 62, 0, 0, 0)), (155, (2, 2, 0, 6, 0)), (157, (1, 62, 0, 0, 0)), (158, (2, 2, 0, 7, 0))], [(160, (1, 62, 0, 0, 0))]]
abbrev m_Y_food : Nat := 125
def t_Y_food : List (List (Nat × pE)) := [[(0, (1, 3, 0, 0, 0)), (1, (1, 2, 0, 1, 0)), (2, (3, 55, 0, 143, 2)), (5, (1, 3, 0, 0, 0)), (6, (1, 2, 0, 2, 0)), (7, (1, 0, 0, 0, 0)), (8, (1, 0, 1, 0, 0)), (9, (1, 3, 0, 0, 0)), (10, (3, 39, 0, 10, 3)), (13, (3, 38, 0, 7, 5))], [(16, (1, 9, 0, 0, 3)), (17, (1, 0, 1, 0, 0)), (18, (1, 9, 0, 0, 1)), (19, (3, 55, 0, 141, 4)), (22, (1, 3, 0, 0, 0)), (23, (1, 2, 0, 3, 0)), (24, (1, 0, 0, 0, 0)), (25, (3, 0, 999, 0, 0)), (28, (3, 55, 0, 141, 4)), (31, (1, 2, 0, 2, 0))], [(32, (1, 2, 0, 1, 0)), (33, (3, 56, 1, 158, 2)), (36, (3, 30, 0, 41, 0)), (39, (1, 0, 0, 0, 0)), (40, (1, 62, 0, 0, 0)), (41, (2, 0, 99, 0, 0)), (43, (2, 5, 0, 4, 0)), (45, (2, 2, 0, 4, 0)), (47, (3, 34, 0, 67, 0))], [(50, (1, 3, 0, 0, 0)), (51, (2, 2, 0, 4, 0)), (53, (1, 2, 0, 2, 0)), (54, (3, 55, 1, 152, 3)), (57, (1, 2, 0, 3, 0)), (58, (3, 28, 0, 67, 0)), (61, (3, 8, (-1), 4, 0))], [(64, (3, 22, 0, 45, 0)), (67, (1, 3, 0, 0, 0)), (68, (3, 39, 0, 10, 6)), (71, (3, 39, 0, 5, 4)), (74, (1, 2, 0, 1, 0)), (75, (1, 43, 0, 0, 0)), (76, (2, 2, 0, 4, 0)), (78, (3, 69, 0, 0, 0))], [(81, (1, 62, 0, 0, 0))]]
abbrev m_Y_darkest : Nat := 126
def t_Y_darkest : List (List (Nat × pE)) := [[(0, (1, 3, 0, 0, 0)), (1, (1, 2, 0, 1, 0)), (2, (1, 0, 0, 0, 0)), (3, (1, 0, 1, 0, 0)), (4, (3, 55, 0, 141, 4)), (7, (1, 0, (-1), 0, 0)), (8, (1, 5, 0, 2, 0)), (9, (1, 0, 0, 0, 0)), (10, (1, 5, 0, 3, 0)), (11, (1, 0, 0, 0, 0)), (12, (2, 5, 0, 4, 0)), (14, (2, 2, 0, 4, 0))], [(16, (1, 3, 0, 0, 0)), (17, (3, 39, 0, 10, 3)), (20, (3, 38, 0, 7, 4)), (23, (3, 26, 0, 55, 0)), (26, (1, 3, 0, 0, 0)), (27, (3, 39, 0, 10, 6)), (30, (2, 2, 0, 4, 0))], [(32, (3, 55, 1, 47, 2)), (35, (2, 5, 0, 5, 0)), (37, (2, 2, 0, 5, 0)), (39, (1, 2, 0, 3, 0)), (40, (3, 28, 0, 49, 0)), (43, (2, 2, 0, 4, 0)), (45, (1, 5, 0, 2, 0)), (46, (2, 2, 0, 5, 0))], [(48, (1, 5, 0, 3, 0)), (49, (3, 8, 1, 4, 0)), (52, (3, 22, 0, 14, 0)), (55, (1, 2, 0, 1, 0)), (56, (1, 2, 0, 2, 0)), (57, (1, 2, 0, 3, 0)), (58, (3, 56, 1, 157, 3)), (61, (1, 62, 0, 0, 0))]]
abbrev m_Y_stillest : Nat := 127
def t_Y_stillest : List (List (Nat × pE)) := [[(0, (1, 3, 0, 0, 0)), (1, (1, 2, 0, 1, 0)), (2, (1, 0, 0, 0, 0)), (3, (1, 0, 1, 0, 0)), (4, (3, 55, 0, 141, 4)), (7, (1, 0, (-1), 0, 0)), (8, (1, 5, 0, 2, 0)), (9, (1, 0, (-1), 0, 0)), (10, (1, 5, 0, 3, 0)), (11, (1, 0, 0, 0, 0)), (12, (2, 5, 0, 4, 0)), (14, (2, 2, 0, 4, 0))], [(16, (1, 3, 0, 0, 0)), (17, (3, 39, 0, 10, 3)), (20, (3, 38, 0, 7, 5)), (23, (3, 26, 0, 72, 0)), (26, (1, 3, 0, 0, 0)), (27, (3, 39, 0, 10, 6)), (30, (2, 2, 0, 4, 0))], [(32, (3, 55, 1, 42, 2)), (35, (3, 29, 0, 66, 0)), (38, (1, 3, 0, 0, 0)), (39, (3, 39, 0, 10, 6)), (42, (3, 39, 0, 5, 3)), (45, (2, 2, 0, 4, 0)), (47, (1, 43, 0, 0, 0))], [(48, (1, 2, 0, 3, 0)), (49, (3, 28, 0, 66, 0)), (52, (2, 2, 0, 4, 0)), (54, (1, 5, 0, 2, 0)), (55, (1, 3, 0, 0, 0)), (56, (3, 39, 0, 10, 6)), (59, (3, 39, 0, 5, 3)), (62, (2, 2, 0, 4, 0))], [(64, (1, 43, 0, 0, 0)), (65, (1, 5, 0, 3, 0)), (66, (3, 8, 1, 4, 0)), (69, (3, 22, 0, 14, 0)), (72, (1, 2, 0, 1, 0)), (73, (1, 2, 0, 2, 0)), (74, (1, 2, 0, 3, 0)), (75, (3, 56, 1, 157, 3)), (78, (1, 62, 0, 0, 0))]]
abbrev m_Y_stains : Nat := 128
def t_Y_stains : List (List (Nat × pE)) := [[(0, (1, 3, 0, 0, 0)), (1, (1, 2, 0, 1, 0)), (2, (1, 0, 0, 0, 0)), (3, (1, 0, 1, 0, 0)), (4, (3, 55, 0, 141, 4)), (7, (1, 0, 0, 0, 0)), (8, (1, 5, 0, 2, 0)), (9, (1, 0, (-1), 0, 0)), (10, (1, 5, 0, 3, 0)), (11, (1, 0, 0, 0, 0)), (12, (2, 5, 0, 4, 0)), (14, (2, 2, 0, 4, 0))], [(16, (1, 3, 0, 0, 0)), (17, (3, 39, 0, 10, 3)), (20, (3, 38, 0, 7, 5)), (23, (3, 26, 0, 99, 0)), (26, (2, 2, 0, 4, 0)), (28, (1, 0, 1, 0, 0)), (29, (1, 9, 0, 0, 0)), (30, (2, 5, 0, 5, 0))], [(32, (2, 2, 0, 5, 0)), (34, (1, 3, 0, 0, 0)), (35, (3, 39, 0, 10, 3)), (38, (3, 38, 0, 7, 5)), (41, (3, 26, 0, 93, 0)), (44, (1, 3, 0, 0, 0)), (45, (3, 39, 0, 10, 6))], [(48, (2, 2, 0, 4, 0)), (50, (3, 55, 1, 50, 2)), (53, (1, 3, 0, 0, 0)), (54, (3, 39, 0, 10, 6)), (57, (2, 2, 0, 5, 0)), (59, (3, 55, 1, 50, 2)), (62, (1, 9, 0, 0, 6)), (63, (3, 29, 0, 87, 0))], [(66, (3, 8, 1, 2, 0)), (69, (1, 2, 0, 3, 0)), (70, (1, 0, (-1), 0, 0)), (71, (3, 24, 0, 85, 0)), (74, (2, 0, 10, 0, 0)), (76, (2, 2, 0, 4, 0)), (78, (1, 9, 0, 0, 2)), (79, (2, 2, 0, 5, 0))], [(81, (1, 9, 0, 0, 0)), (82, (3, 22, 0, 86, 0)), (85, (1, 2, 0, 3, 0)), (86, (1, 5, 0, 3, 0)), (87, (3, 8, 1, 5, 0)), (90, (3, 22, 0, 32, 0)), (93, (3, 8, 1, 4, 0))], [(96, (3, 22, 0, 14, 0)), (99, (1, 2, 0, 1, 0)), (100, (3, 30, 0, 107, 0)), (103, (1, 2, 0, 2, 0)), (104, (3, 22, 0, 108, 0)), (107, (1, 2, 0, 3, 0)), (108, (1, 62, 0, 0, 0))]]
abbrev m_Y_hungriest : Nat := 129
def t_Y_hungriest : List (List (Nat × pE)) := [[(0, (1, 3, 0, 0, 0)), (1, (1, 2, 0, 1, 0)), (2, (1, 0, 0, 0, 0)), (3, (1, 0, 1, 0, 0)), (4, (3, 55, 0, 141, 4)), (7, (1, 0, (-1), 0, 0)), (8, (1, 5, 0, 2, 0)), (9, (1, 0, (-1), 0, 0)), (10, (1, 5, 0, 3, 0)), (11, (1, 0, 0, 0, 0)), (12, (2, 5, 0, 4, 0)), (14, (2, 2, 0, 4, 0))], [(16, (1, 3, 0, 0, 0)), (17, (3, 39, 0, 10, 3)), (20, (3, 38, 0, 7, 5)), (23, (3, 26, 0, 60, 0)), (26, (1, 3, 0, 0, 0)), (27, (3, 39, 0, 10, 6)), (30, (3, 39, 0, 5, 4))], [(33, (2, 2, 0, 4, 0)), (35, (1, 43, 0, 0, 0)), (36, (1, 2, 0, 3, 0)), (37, (3, 28, 0, 54, 0)), (40, (2, 2, 0, 4, 0)), (42, (1, 5, 0, 2, 0)), (43, (1, 3, 0, 0, 0)), (44, (3, 39, 0, 10, 6)), (47, (3, 39, 0, 5, 4))], [(50, (2, 2, 0, 4, 0)), (52, (1, 43, 0, 0, 0)), (53, (1, 5, 0, 3, 0)), (54, (3, 8, 1, 4, 0)), (57, (3, 22, 0, 14, 0)), (60, (1, 2, 0, 1, 0)), (61, (1, 2, 0, 2, 0)), (62, (1, 2, 0, 3, 0)), (63, (3, 56, 1, 157, 3))], [(66, (1, 62, 0, 0, 0))]]
abbrev m_Y_brightest : Nat := 130
def t_Y_brightest : List (List (Nat × pE)) := [[(0, (1, 3, 0, 0, 0)), (1, (1, 2, 0, 1, 0)), (2, (1, 0, 0, 0, 0)), (3, (1, 0, 1, 0, 0)), (4, (3, 55, 0, 141, 4)), (7, (1, 0, (-1), 0, 0)), (8, (1, 5, 0, 2, 0)), (9, (1, 0, (-1), 0, 0)), (10, (1, 5, 0, 3, 0)), (11, (1, 0, 0, 0, 0)), (12, (2, 5, 0, 4, 0)), (14, (2, 2, 0, 4, 0))], [(16, (1, 3, 0, 0, 0)), (17, (3, 39, 0, 10, 3)), (20, (3, 38, 0, 7, 4)), (23, (3, 26, 0, 60, 0)), (26, (1, 3, 0, 0, 0)), (27, (3, 39, 0, 10, 6)), (30, (3, 39, 0, 5, 1))], [(33, (2, 2, 0, 4, 0)), (35, (1, 43, 0, 0, 0)), (36, (1, 2, 0, 3, 0)), (37, (3, 28, 0, 54, 0)), (40, (2, 2, 0, 4, 0)), (42, (1, 5, 0, 2, 0)), (43, (1, 3, 0, 0, 0)), (44, (3, 39, 0, 10, 6)), (47, (3, 39, 0, 5, 1))], [(50, (2, 2, 0, 4, 0)), (52, (1, 43, 0, 0, 0)), (53, (1, 5, 0, 3, 0)), (54, (3, 8, 1, 4, 0)), (57, (3, 22, 0, 14, 0)), (60, (1, 2, 0, 1, 0)), (61, (1, 2, 0, 2, 0)), (62, (1, 2, 0, 3, 0)), (63, (3, 56, 1, 157, 3))], [(66, (1, 62, 0, 0, 0))]]
abbrev m_Y_empty : Nat := 131
def t_Y_empty : List (List (Nat × pE)) := [[(0, (1, 3, 0, 0, 0)), (1, (1, 2, 0, 1, 0)), (2, (1, 0, 0, 0, 0)), (3, (1, 0, 1, 0, 0)), (4, (3, 55, 0, 141, 4)), (7, (1, 0, 0, 0, 0)), (8, (1, 5, 0, 2, 0)), (9, (1, 0, 0, 0, 0)), (10, (1, 5, 0, 3, 0)), (11, (1, 2, 0, 3, 0)), (12, (1, 3, 0, 0, 0)), (13, (3, 39, 0, 10, 3))], [(16, (3, 38, 0, 7, 4)), (19, (3, 26, 0, 81, 0)), (22, (1, 2, 0, 1, 0)), (23, (3, 30, 0, 46, 0)), (26, (1, 3, 0, 0, 0)), (27, (3, 39, 0, 10, 6)), (30, (1, 2, 0, 3, 0)), (31, (3, 55, 1, 44, 2))], [(34, (1, 0, (-1), 0, 0)), (35, (3, 24, 0, 42, 0)), (38, (1, 0, 1, 0, 0)), (39, (3, 22, 0, 62, 0)), (42, (1, 0, 0, 0, 0)), (43, (3, 22, 0, 62, 0)), (46, (1, 3, 0, 0, 0)), (47, (3, 39, 0, 10, 6))], [(50, (1, 2, 0, 3, 0)), (51, (3, 55, 1, 47, 2)), (54, (3, 30, 0, 61, 0)), (57, (1, 0, 1, 0, 0)), (58, (3, 22, 0, 62, 0)), (61, (1, 0, 0, 0, 0)), (62, (2, 5, 0, 4, 0))], [(64, (2, 2, 0, 4, 0)), (66, (3, 29, 0, 75, 0)), (69, (1, 2, 0, 2, 0)), (70, (1, 0, 1, 0, 0)), (71, (1, 2, 0, 3, 0)), (72, (1, 9, 0, 0, 3)), (73, (1, 9, 0, 0, 7)), (74, (1, 5, 0, 2, 0)), (75, (3, 8, 1, 3, 0)), (78, (3, 22, 0, 11, 0))], [(81, (1, 2, 0, 2, 0)), (82, (1, 62, 0, 0, 0))]]
abbrev m_Y_absent : Nat := 132
def t_Y_absent : List (List (Nat × pE)) := [[(0, (1, 0, 0, 0, 0)), (1, (1, 5, 0, 1, 0)), (2, (1, 0, 0, 0, 0)), (3, (1, 5, 0, 2, 0)), (4, (1, 2, 0, 2, 0)), (5, (1, 3, 0, 0, 0)), (6, (3, 39, 0, 10, 3)), (9, (3, 38, 0, 7, 5)), (12, (3, 26, 0, 38, 0)), (15, (1, 3, 0, 0, 0))], [(16, (3, 39, 0, 10, 6)), (19, (1, 2, 0, 2, 0)), (20, (3, 55, 1, 50, 2)), (23, (3, 30, 0, 32, 0)), (26, (1, 2, 0, 1, 0)), (27, (1, 0, 1, 0, 0)), (28, (1, 2, 0, 2, 0)), (29, (1, 9, 0, 0, 3)), (30, (1, 9, 0, 0, 7)), (31, (1, 5, 0, 1, 0))], [(32, (3, 8, 1, 2, 0)), (35, (3, 22, 0, 4, 0)), (38, (1, 2, 0, 1, 0)), (39, (1, 62, 0, 0, 0))]]
abbrev m_Y_crowd : Nat := 133
def t_Y_crowd : List (List (Nat × pE)) := [[(0, (1, 3, 0, 0, 0)), (1, (1, 2, 0, 1, 0)), (2, (3, 55, 0, 142, 2)), (5, (1, 0, 0, 0, 0)), (6, (1, 5, 0, 2, 0)), (7, (1, 0, 0, 0, 0)), (8, (1, 5, 0, 3, 0)), (9, (1, 2, 0, 3, 0)), (10, (1, 3, 0, 0, 0)), (11, (3, 39, 0, 10, 3)), (14, (3, 38, 0, 7, 5))], [(17, (3, 26, 0, 41, 0)), (20, (1, 3, 0, 0, 0)), (21, (3, 39, 0, 10, 6)), (24, (1, 2, 0, 1, 0)), (25, (1, 2, 0, 3, 0)), (26, (3, 55, 1, 46, 3)), (29, (3, 34, 0, 35, 0))], [(32, (3, 8, 1, 2, 0)), (35, (3, 8, 1, 3, 0)), (38, (3, 22, 0, 9, 0)), (41, (1, 2, 0, 2, 0)), (42, (1, 62, 0, 0, 0))]]
abbrev m_Y_lead : Nat := 134
def t_Y_lead : List (List (Nat × pE)) := [[(0, (1, 3, 0, 0, 0)), (1, (1, 2, 0, 1, 0)), (2, (3, 55, 0, 142, 2)), (5, (1, 0, 0, 0, 0)), (6, (1, 5, 0, 2, 0)), (7, (1, 0, 0, 0, 0)), (8, (1, 5, 0, 3, 0)), (9, (1, 0, 0, 0, 0)), (10, (2, 5, 0, 4, 0)), (12, (2, 2, 0, 4, 0)), (14, (1, 3, 0, 0, 0)), (15, (3, 39, 0, 10, 3))], [(18, (3, 38, 0, 7, 5)), (21, (3, 26, 0, 60, 0)), (24, (1, 3, 0, 0, 0)), (25, (3, 39, 0, 10, 6)), (28, (1, 2, 0, 1, 0)), (29, (2, 2, 0, 4, 0)), (31, (3, 55, 1, 46, 3))], [(34, (2, 5, 0, 5, 0)), (36, (1, 2, 0, 3, 0)), (37, (1, 2, 0, 2, 0)), (38, (2, 2, 0, 5, 0)), (40, (3, 69, 0, 0, 0)), (43, (3, 68, 0, 0, 0)), (46, (1, 5, 0, 3, 0)), (47, (1, 2, 0, 2, 0))], [(48, (2, 2, 0, 5, 0)), (50, (3, 68, 0, 0, 0)), (53, (1, 5, 0, 2, 0)), (54, (3, 8, 1, 4, 0)), (57, (3, 22, 0, 12, 0)), (60, (1, 2, 0, 2, 0)), (61, (1, 2, 0, 3, 0)), (62, (1, 9, 0, 0, 1)), (63, (1, 62, 0, 0, 0))]]
abbrev m_Y_season : Nat := 135
def t_Y_season : List (List (Nat × pE)) := [[(0, (1, 3, 0, 0, 0)), (1, (1, 2, 0, 2, 0)), (2, (1, 0, 0, 0, 0)), (3, (2, 0, 16, 0, 0)), (5, (3, 55, 0, 141, 4)), (8, (1, 3, 0, 0, 0)), (9, (1, 2, 0, 3, 0)), (10, (1, 0, 1, 0, 0)), (11, (2, 0, 96, 0, 0)), (13, (3, 55, 0, 141, 4))], [(16, (1, 3, 0, 0, 0)), (17, (2, 2, 0, 4, 0)), (19, (1, 0, 0, 0, 0)), (20, (1, 0, 3, 0, 0)), (21, (3, 55, 0, 141, 4)), (24, (1, 3, 0, 0, 0)), (25, (1, 2, 0, 1, 0)), (26, (1, 2, 0, 2, 0)), (27, (1, 2, 0, 3, 0)), (28, (3, 55, 0, 155, 4)), (31, (2, 2, 0, 4, 0))], [(33, (27, 37, 0, 7, 0))], [(60, (1, 3, 0, 0, 0)), (61, (3, 39, 0, 10, 7))], [(64, (3, 55, 1, 48, 1)), (67, (1, 62, 0, 0, 0)), (68, (1, 3, 0, 0, 0)), (69, (3, 39, 0, 10, 7)), (72, (3, 55, 1, 43, 1)), (75, (1, 62, 0, 0, 0)), (76, (1, 3, 0, 0, 0)), (77, (3, 39, 0, 10, 7))], [(80, (3, 38, 0, 5, 7)), (83, (1, 62, 0, 0, 0)), (84, (1, 3, 0, 0, 0)), (85, (3, 39, 0, 10, 7)), (88, (3, 55, 1, 53, 1)), (91, (1, 62, 0, 0, 0))]]
abbrev m_Y_span : Nat := 136
def t_Y_span : List (List (Nat × pE)) := [[(0, (1, 3, 0, 0, 0)), (1, (1, 2, 0, 2, 0)), (2, (1, 0, 1, 0, 0)), (3, (2, 0, 20, 0, 0)), (5, (3, 55, 0, 141, 4)), (8, (1, 3, 0, 0, 0)), (9, (1, 2, 0, 3, 0)), (10, (1, 0, 0, 0, 0)), (11, (2, 0, 16, 0, 0)), (13, (3, 55, 0, 141, 4))], [(16, (1, 3, 0, 0, 0)), (17, (2, 2, 0, 4, 0)), (19, (1, 0, 1, 0, 0)), (20, (2, 0, 96, 0, 0)), (22, (3, 55, 0, 141, 4)), (25, (1, 3, 0, 0, 0)), (26, (2, 2, 0, 5, 0)), (28, (1, 0, 0, 0, 0)), (29, (1, 0, 2, 0, 0)), (30, (3, 55, 0, 141, 4))], [(33, (1, 0, (-1), 0, 0)), (34, (2, 5, 0, 6, 0)), (36, (1, 0, 0, 0, 0)), (37, (2, 5, 0, 7, 0)), (39, (1, 0, 0, 0, 0)), (40, (2, 5, 0, 8, 0)), (42, (1, 0, 0, 0, 0)), (43, (2, 5, 0, 9, 0)), (45, (2, 2, 0, 9, 0)), (47, (1, 2, 0, 2, 0))], [(48, (3, 26, 0, 126, 0)), (51, (1, 3, 0, 0, 0)), (52, (1, 2, 0, 1, 0)), (53, (2, 2, 0, 9, 0)), (55, (1, 9, 0, 0, 0)), (56, (1, 2, 0, 3, 0)), (57, (2, 2, 0, 4, 0)), (59, (3, 55, 0, 155, 4)), (62, (1, 3, 0, 0, 0)), (63, (3, 39, 0, 10, 7))], [(66, (3, 55, 1, 48, 1)), (69, (2, 5, 0, 10, 0)), (71, (2, 2, 0, 6, 0)), (73, (1, 0, (-1), 0, 0)), (74, (3, 24, 0, 82, 0)), (77, (2, 2, 0, 10, 0)), (79, (3, 22, 0, 89, 0))], [(82, (2, 2, 0, 6, 0)), (84, (2, 2, 0, 10, 0)), (86, (3, 69, 0, 0, 0)), (89, (2, 5, 0, 6, 0)), (91, (2, 2, 0, 7, 0)), (93, (2, 2, 0, 10, 0)), (95, (3, 68, 0, 0, 0))], [(98, (2, 5, 0, 7, 0)), (100, (2, 2, 0, 8, 0)), (102, (1, 3, 0, 0, 0)), (103, (3, 39, 0, 10, 7)), (106, (3, 55, 1, 53, 1)), (109, (3, 30, 0, 116, 0))], [(112, (1, 0, 1, 0, 0)), (113, (3, 22, 0, 117, 0)), (116, (1, 0, 0, 0, 0)), (117, (1, 9, 0, 0, 0)), (118, (2, 5, 0, 8, 0)), (120, (3, 8, 1, 9, 0)), (123, (3, 22, 0, 45, 0)), (126, (2, 2, 0, 5, 0))], [(128, (28, 37, 1, 8, 0))], [(156, (2, 2, 0, 6, 0)), (158, (1, 62, 0, 0, 0)), (159, (2, 2, 0, 7, 0))], [(161, (1, 62, 0, 0, 0)), (162, (2, 2, 0, 8, 0)), (164, (1, 62, 0, 0, 0))]]
abbrev m_Y_status : Nat := 137
def t_Y_status : List (List (Nat × pE)) := [[(0, (1, 2, 0, 1, 0)), (1, (27, 37, 1, 9, 0))], [(28, (1, 3, 0, 0, 0)), (29, (3, 38, 0, 10, 12))], [(32, (1, 62, 0, 0, 0)), (33, (1, 3, 0, 0, 0)), (34, (3, 38, 0, 10, 13)), (37, (1, 62, 0, 0, 0)), (38, (1, 0, (-1), 0, 0)), (39, (1, 62, 0, 0, 0))]]
abbrev m_Y_count : Nat := 138
def t_Y_count : List (List (Nat × pE)) := [[(0, (1, 2, 0, 1, 0)), (1, (27, 37, 0, 10, 0))], [(28, (1, 3, 0, 0, 0)), (29, (3, 38, 0, 10, 10))], [(32, (1, 62, 0, 0, 0)), (33, (1, 3, 0, 0, 0)), (34, (3, 39, 0, 10, 0)), (37, (3, 38, 0, 8, 1)), (40, (1, 62, 0, 0, 0)), (41, (1, 3, 0, 0, 0)), (42, (3, 38, 0, 10, 9)), (45, (1, 62, 0, 0, 0)), (46, (1, 0, (-1), 0, 0)), (47, (1, 62, 0, 0, 0))]]
abbrev m_Y_refuseArgument : Nat := 139
def t_Y_refuseArgument : List (List (Nat × pE)) := [[(0, (1, 3, 0, 0, 0)), (1, (1, 18, 0, 0, 0)), (2, (3, 38, 0, 10, 13)), (5, (1, 0, 1, 0, 0)), (6, (1, 9, 0, 0, 0)), (7, (3, 41, 0, 10, 13)), (10, (3, 54, 0, 0, 0)), (13, (1, 18, 0, 0, 0)), (14, (3, 99, 0, 0, 0))], [(17, (1, 99, 0, 0, 0))]]
abbrev m_Y_refuseElement : Nat := 140
def t_Y_refuseElement : List (List (Nat × pE)) := [[(0, (1, 3, 0, 0, 0)), (1, (1, 18, 0, 0, 0)), (2, (3, 38, 0, 10, 12)), (5, (1, 0, 1, 0, 0)), (6, (1, 9, 0, 0, 0)), (7, (3, 41, 0, 10, 12)), (10, (3, 54, 0, 1, 0)), (13, (1, 18, 0, 0, 0)), (14, (3, 99, 0, 0, 0))], [(17, (1, 99, 0, 0, 0))]]
abbrev m_Y_needRange : Nat := 141
def t_Y_needRange : List (List (Nat × pE)) := [[(0, (1, 2, 0, 1, 0)), (1, (1, 2, 0, 2, 0)), (2, (3, 25, 0, 10, 0)), (5, (1, 2, 0, 1, 0)), (6, (1, 2, 0, 3, 0)), (7, (3, 28, 0, 15, 0)), (10, (1, 3, 0, 0, 0)), (11, (3, 55, 1, 139, 1)), (14, (1, 20, 0, 0, 0)), (15, (1, 65, 0, 0, 0))]]
abbrev m_Y_needSeat : Nat := 142
def t_Y_needSeat : List (List (Nat × pE)) := [[(0, (1, 2, 0, 1, 0)), (1, (3, 31, 0, 15, 0)), (4, (1, 2, 0, 1, 0)), (5, (1, 3, 0, 0, 0)), (6, (3, 39, 0, 10, 3)), (9, (3, 38, 0, 7, 4)), (12, (3, 25, 0, 20, 0)), (15, (1, 3, 0, 0, 0))], [(16, (3, 55, 1, 140, 1)), (19, (1, 20, 0, 0, 0)), (20, (1, 65, 0, 0, 0))]]
abbrev m_Y_needSitter : Nat := 143
def t_Y_needSitter : List (List (Nat × pE)) := [[(0, (1, 2, 0, 1, 0)), (1, (3, 31, 0, 15, 0)), (4, (1, 2, 0, 1, 0)), (5, (1, 3, 0, 0, 0)), (6, (3, 39, 0, 10, 3)), (9, (3, 38, 0, 7, 5)), (12, (3, 25, 0, 20, 0)), (15, (1, 3, 0, 0, 0))], [(16, (3, 55, 1, 140, 1)), (19, (1, 20, 0, 0, 0)), (20, (1, 65, 0, 0, 0))]]
abbrev m_Y_needSitting : Nat := 144
def t_Y_needSitting : List (List (Nat × pE)) := [[(0, (1, 2, 0, 1, 0)), (1, (3, 31, 0, 15, 0)), (4, (1, 2, 0, 1, 0)), (5, (1, 3, 0, 0, 0)), (6, (3, 39, 0, 10, 3)), (9, (3, 38, 0, 7, 6)), (12, (3, 25, 0, 20, 0)), (15, (1, 3, 0, 0, 0))], [(16, (3, 55, 1, 140, 1)), (19, (1, 20, 0, 0, 0)), (20, (1, 65, 0, 0, 0))]]
abbrev m_Y_openText : Nat := 145
def t_Y_openText : List (List (Nat × pE)) := [[(0, (1, 3, 0, 0, 0)), (1, (1, 2, 0, 1, 0)), (2, (1, 0, 0, 0, 0)), (3, (1, 2, 0, 2, 0)), (4, (1, 3, 0, 0, 0)), (5, (3, 39, 0, 10, 0)), (8, (3, 38, 0, 8, 1)), (11, (3, 69, 0, 0, 0)), (14, (3, 55, 0, 141, 4))], [(17, (1, 3, 0, 0, 0)), (18, (3, 39, 0, 10, 0)), (21, (1, 2, 0, 1, 0)), (22, (3, 55, 0, 68, 2)), (25, (1, 65, 0, 0, 0))]]
abbrev m_Y_begin : Nat := 146
def t_Y_begin : List (List (Nat × pE)) := [[(0, (1, 3, 0, 0, 0)), (1, (1, 3, 0, 1, 0)), (2, (3, 42, 0, 10, 3)), (5, (1, 3, 0, 0, 0)), (6, (3, 53, 0, 1, 4)), (9, (1, 18, 0, 0, 0)), (10, (3, 57, 0, 5, 1)), (13, (3, 42, 0, 10, 4))], [(16, (1, 3, 0, 0, 0)), (17, (3, 53, 0, 0, 3)), (20, (1, 18, 0, 0, 0)), (21, (3, 57, 0, 0, 1)), (24, (3, 42, 0, 10, 5)), (27, (1, 3, 0, 0, 0)), (28, (3, 53, 0, 5, 8)), (31, (1, 18, 0, 0, 0))], [(32, (1, 3, 0, 1, 0)), (33, (3, 57, 0, 32, 2)), (36, (3, 42, 0, 10, 6)), (39, (1, 3, 0, 0, 0)), (40, (3, 53, 0, 5, 8)), (43, (1, 18, 0, 0, 0)), (44, (1, 3, 0, 1, 0)), (45, (3, 57, 0, 32, 2))], [(48, (3, 42, 0, 10, 7)), (51, (1, 3, 0, 0, 0)), (52, (1, 21, 0, 0, 0)), (53, (3, 42, 0, 10, 8)), (56, (1, 3, 0, 0, 0)), (57, (1, 0, 0, 0, 0)), (58, (3, 41, 0, 10, 9)), (61, (1, 3, 0, 0, 0)), (62, (1, 0, 0, 0, 0)), (63, (3, 41, 0, 10, 10))], [(66, (1, 3, 0, 0, 0)), (67, (1, 0, 0, 0, 0)), (68, (3, 41, 0, 10, 11)), (71, (1, 65, 0, 0, 0))]]
abbrev m_Y_momentNow : Nat := 147
def t_Y_momentNow : List (List (Nat × pE)) := [[(0, (3, 53, 0, 5, 8)), (3, (1, 18, 0, 0, 0)), (4, (1, 3, 0, 0, 0)), (5, (3, 39, 0, 10, 3)), (8, (3, 57, 0, 32, 2)), (11, (1, 6, 0, 1, 0)), (12, (1, 3, 0, 1, 0)), (13, (1, 3, 0, 0, 0)), (14, (3, 39, 0, 10, 6))], [(17, (3, 55, 0, 33, 2)), (20, (3, 53, 0, 2, 3)), (23, (1, 18, 0, 0, 0)), (24, (1, 3, 0, 1, 0)), (25, (1, 3, 0, 0, 0)), (26, (3, 40, 0, 10, 8)), (29, (1, 3, 0, 0, 0)), (30, (3, 38, 0, 10, 9))], [(33, (3, 57, 0, 20, 4)), (36, (1, 64, 0, 0, 0))]]
abbrev m_Y_goBack : Nat := 148
def t_Y_goBack : List (List (Nat × pE)) := [[(0, (1, 3, 0, 0, 0)), (1, (3, 39, 0, 10, 6)), (4, (1, 3, 0, 1, 0)), (5, (3, 39, 0, 2, 0)), (8, (3, 55, 0, 33, 2)), (11, (1, 3, 0, 0, 0)), (12, (1, 3, 0, 1, 0)), (13, (3, 40, 0, 2, 1))], [(16, (3, 42, 0, 10, 8)), (19, (1, 3, 0, 0, 0)), (20, (1, 3, 0, 1, 0)), (21, (3, 38, 0, 2, 2)), (24, (3, 41, 0, 10, 9)), (27, (1, 3, 0, 0, 0)), (28, (1, 0, 0, 0, 0)), (29, (3, 41, 0, 10, 11))], [(32, (1, 65, 0, 0, 0))]]
abbrev m_Y_mealsFor : Nat := 149
def t_Y_mealsFor : List (List (Nat × pE)) := [[(0, (1, 0, 1, 0, 0)), (1, (1, 3, 0, 0, 0)), (2, (3, 39, 0, 10, 3)), (5, (3, 39, 0, 7, 2)), (8, (1, 2, 0, 1, 0)), (9, (1, 43, 0, 0, 0)), (10, (3, 68, 0, 0, 0)), (13, (1, 5, 0, 3, 0)), (14, (1, 2, 0, 2, 0)), (15, (1, 0, 0, 0, 0))], [(16, (1, 2, 0, 3, 0)), (17, (1, 3, 0, 0, 0)), (18, (3, 39, 0, 10, 6)), (21, (3, 39, 0, 5, 4)), (24, (1, 2, 0, 1, 0)), (25, (1, 43, 0, 0, 0)), (26, (1, 9, 0, 0, 1)), (27, (3, 68, 0, 0, 0)), (30, (1, 9, 0, 0, 1)), (31, (2, 5, 0, 4, 0))], [(33, (2, 2, 0, 4, 0)), (35, (3, 33, 0, 42, 0)), (38, (1, 0, 0, 0, 0)), (39, (3, 22, 0, 50, 0)), (42, (2, 2, 0, 4, 0)), (44, (1, 2, 0, 3, 0)), (45, (1, 9, 0, 0, 0)), (46, (1, 0, 1, 0, 0)), (47, (1, 9, 0, 0, 1))], [(48, (1, 2, 0, 3, 0)), (49, (1, 10, 0, 0, 0)), (50, (1, 62, 0, 0, 0))]]
abbrev m_Y_daysOn : Nat := 150
def t_Y_daysOn : List (List (Nat × pE)) := [[(0, (1, 3, 0, 0, 0)), (1, (3, 39, 0, 10, 5)), (4, (1, 2, 0, 2, 0)), (5, (3, 55, 1, 2, 2)), (8, (1, 5, 0, 3, 0)), (9, (1, 2, 0, 3, 0)), (10, (3, 30, 0, 15, 0)), (13, (1, 0, 0, 0, 0)), (14, (1, 62, 0, 0, 0)), (15, (1, 3, 0, 0, 0))], [(16, (3, 39, 0, 10, 6)), (19, (1, 3, 0, 0, 0)), (20, (3, 39, 0, 10, 4)), (23, (1, 2, 0, 1, 0)), (24, (1, 2, 0, 2, 0)), (25, (3, 55, 1, 41, 4)), (28, (2, 5, 0, 4, 0)), (30, (2, 2, 0, 4, 0))], [(32, (3, 34, 0, 42, 0)), (35, (1, 2, 0, 3, 0)), (36, (2, 2, 0, 4, 0)), (38, (1, 11, 0, 0, 0)), (39, (3, 29, 0, 44, 0)), (42, (1, 0, (-1), 0, 0)), (43, (1, 62, 0, 0, 0)), (44, (1, 2, 0, 3, 0)), (45, (2, 2, 0, 4, 0)), (47, (1, 10, 0, 0, 0))], [(48, (1, 62, 0, 0, 0))]]
abbrev m_Y_choices : Nat := 151
def t_Y_choices : List (List (Nat × pE)) := [[(0, (1, 2, 0, 1, 0)), (1, (1, 2, 0, 0, 0)), (2, (1, 2, 0, 1, 0)), (3, (1, 9, 0, 0, 1)), (4, (3, 69, 0, 0, 0)), (7, (1, 5, 0, 2, 1)), (8, (1, 1, 1, 0, 0)), (9, (1, 7, 0, 3, 0)), (10, (1, 0, 1, 0, 0)), (11, (2, 5, 0, 5, 1)), (13, (2, 2, 0, 5, 0)), (15, (1, 2, 0, 2, 0))], [(16, (3, 27, 0, 47, 0)), (19, (1, 4, 0, 3, 0)), (20, (3, 1, 1000000000, 0, 0)), (23, (1, 17, 0, 0, 0)), (24, (3, 32, 0, 47, 0)), (27, (1, 4, 0, 3, 0)), (28, (1, 2, 0, 0, 0)), (29, (1, 2, 0, 2, 0)), (30, (1, 9, 0, 0, 1)), (31, (2, 2, 0, 5, 0))], [(33, (1, 9, 0, 0, 0)), (34, (1, 15, 0, 0, 0)), (35, (1, 12, 0, 0, 0)), (36, (2, 2, 0, 5, 0)), (38, (1, 15, 0, 0, 0)), (39, (1, 13, 0, 0, 0)), (40, (1, 7, 0, 3, 0)), (41, (3, 8, 1, 5, 1)), (44, (3, 22, 0, 13, 0)), (47, (3, 1, 1000000000, 0, 0))], [(50, (1, 4, 0, 3, 0)), (51, (3, 70, 0, 0, 0)), (54, (1, 63, 0, 0, 0))]]
abbrev m_Y_givenWithin : Nat := 152
def t_Y_givenWithin : List (List (Nat × pE)) := [[(0, (1, 0, 0, 0, 0)), (1, (1, 5, 0, 3, 0)), (2, (1, 0, 0, 0, 0)), (3, (2, 5, 0, 4, 0)), (5, (2, 2, 0, 4, 0)), (7, (1, 3, 0, 0, 0)), (8, (3, 39, 0, 10, 3)), (11, (3, 38, 0, 7, 5)), (14, (3, 26, 0, 49, 0))], [(17, (1, 2, 0, 2, 0)), (18, (2, 2, 0, 4, 0)), (20, (3, 56, 1, 158, 2)), (23, (3, 29, 0, 43, 0)), (26, (1, 2, 0, 3, 0)), (27, (1, 3, 0, 0, 0)), (28, (3, 39, 0, 10, 6)), (31, (3, 39, 0, 5, 4))], [(34, (2, 2, 0, 4, 0)), (36, (1, 43, 0, 0, 0)), (37, (1, 2, 0, 1, 0)), (38, (3, 69, 0, 0, 0)), (41, (1, 9, 0, 0, 0)), (42, (1, 5, 0, 3, 0)), (43, (3, 8, 1, 4, 0)), (46, (3, 22, 0, 5, 0))], [(49, (1, 2, 0, 3, 0)), (50, (1, 62, 0, 0, 0))]]
abbrev m_Y_has : Nat := 153
def t_Y_has : List (List (Nat × pE)) := [[(0, (1, 2, 0, 3, 0)), (1, (2, 2, 0, 4, 0)), (3, (3, 24, 0, 16, 0)), (6, (1, 2, 0, 3, 0)), (7, (3, 30, 0, 14, 0)), (10, (1, 2, 0, 0, 0)), (11, (3, 22, 0, 15, 0)), (14, (1, 2, 0, 1, 0)), (15, (1, 62, 0, 0, 0))], [(16, (1, 2, 0, 3, 0)), (17, (1, 0, 1, 0, 0)), (18, (3, 24, 0, 25, 0)), (21, (1, 2, 0, 2, 0)), (22, (3, 22, 0, 26, 0)), (25, (1, 0, 0, 0, 0)), (26, (1, 62, 0, 0, 0))]]
abbrev m_Y_rests : Nat := 154
def t_Y_rests : List (List (Nat × pE)) := [[(0, (1, 2, 0, 0, 0)), (1, (1, 2, 0, 1, 0)), (2, (1, 2, 0, 2, 0)), (3, (1, 2, 0, 3, 0)), (4, (2, 2, 0, 4, 0)), (6, (3, 56, 1, 153, 5)), (9, (1, 2, 0, 0, 0)), (10, (1, 2, 0, 1, 0)), (11, (1, 2, 0, 2, 0)), (12, (1, 0, 1, 0, 0)), (13, (1, 2, 0, 3, 0)), (14, (1, 9, 0, 0, 1)), (15, (2, 2, 0, 4, 0))], [(17, (3, 56, 1, 153, 5)), (20, (3, 25, 0, 50, 0)), (23, (1, 2, 0, 0, 0)), (24, (1, 2, 0, 1, 0)), (25, (1, 2, 0, 2, 0)), (26, (2, 2, 0, 4, 0)), (28, (1, 2, 0, 3, 0)), (29, (3, 56, 1, 153, 5))], [(32, (1, 2, 0, 0, 0)), (33, (1, 2, 0, 1, 0)), (34, (1, 2, 0, 2, 0)), (35, (1, 0, 1, 0, 0)), (36, (2, 2, 0, 4, 0)), (38, (1, 9, 0, 0, 1)), (39, (1, 2, 0, 3, 0)), (40, (3, 56, 1, 153, 5)), (43, (3, 25, 0, 50, 0)), (46, (1, 0, 1, 0, 0)), (47, (3, 22, 0, 51, 0))], [(50, (1, 0, 0, 0, 0)), (51, (1, 66, 0, 0, 0))]]
abbrev m_Y_playSeason : Nat := 155
def t_Y_playSeason : List (List (Nat × pE)) := [[(0, (1, 3, 0, 0, 0)), (1, (3, 39, 0, 10, 7)), (4, (1, 3, 0, 0, 0)), (5, (3, 39, 0, 10, 6)), (8, (3, 55, 0, 33, 2)), (11, (3, 53, 0, 6, 1)), (14, (1, 18, 0, 0, 0)), (15, (1, 2, 0, 1, 0))], [(16, (3, 57, 0, 54, 2)), (19, (2, 6, 0, 4, 0)), (21, (1, 0, 0, 0, 0)), (22, (2, 5, 0, 5, 0)), (24, (2, 2, 0, 5, 0)), (26, (1, 2, 0, 3, 0)), (27, (3, 26, 0, 64, 0)), (30, (1, 3, 0, 0, 0)), (31, (3, 39, 0, 10, 3))], [(34, (3, 38, 0, 7, 5)), (37, (3, 34, 0, 47, 0)), (40, (1, 3, 0, 0, 0)), (41, (2, 3, 0, 4, 0)), (43, (1, 2, 0, 2, 0)), (44, (3, 55, 0, 156, 3)), (47, (1, 3, 0, 0, 0))], [(48, (3, 39, 0, 10, 7)), (51, (1, 3, 0, 0, 0)), (52, (3, 39, 0, 10, 4)), (55, (3, 55, 0, 38, 2)), (58, (3, 8, 1, 5, 0)), (61, (3, 22, 0, 24, 0))], [(64, (1, 65, 0, 0, 0))]]
abbrev m_Y_playDrawnSteps : Nat := 156
def t_Y_playDrawnSteps : List (List (Nat × pE)) := [[(0, (1, 3, 0, 1, 0)), (1, (1, 3, 0, 0, 0)), (2, (3, 39, 0, 10, 3)), (5, (3, 38, 0, 7, 5)), (8, (3, 55, 1, 55, 2)), (11, (1, 5, 0, 3, 0)), (12, (1, 3, 0, 0, 0)), (13, (3, 39, 0, 10, 3))], [(16, (3, 38, 0, 7, 4)), (19, (3, 34, 0, 42, 0)), (22, (1, 3, 0, 0, 0)), (23, (3, 39, 0, 10, 7)), (26, (1, 2, 0, 3, 0)), (27, (1, 3, 0, 1, 0)), (28, (1, 3, 0, 0, 0)), (29, (3, 39, 0, 10, 3))], [(32, (3, 38, 0, 7, 4)), (35, (3, 55, 1, 55, 2)), (38, (3, 55, 1, 34, 3)), (41, (1, 20, 0, 0, 0)), (42, (1, 3, 0, 1, 0)), (43, (2, 0, 16, 0, 0)), (45, (3, 55, 1, 55, 2))], [(48, (1, 2, 0, 2, 0)), (49, (3, 26, 0, 61, 0)), (52, (1, 3, 0, 0, 0)), (53, (3, 39, 0, 10, 7)), (56, (1, 2, 0, 3, 0)), (57, (3, 55, 1, 36, 2)), (60, (1, 20, 0, 0, 0)), (61, (1, 65, 0, 0, 0))]]
abbrev m_Y_pick : Nat := 157
def t_Y_pick : List (List (Nat × pE)) := [[(0, (1, 2, 0, 1, 0)), (1, (1, 0, (-1), 0, 0)), (2, (3, 24, 0, 7, 0)), (5, (1, 0, (-1), 0, 0)), (6, (1, 62, 0, 0, 0)), (7, (1, 2, 0, 0, 0)), (8, (3, 30, 0, 15, 0)), (11, (1, 2, 0, 1, 0)), (12, (3, 22, 0, 16, 0)), (15, (1, 2, 0, 2, 0))], [(16, (1, 62, 0, 0, 0))]]
abbrev m_Y_hasBit : Nat := 158
def t_Y_hasBit : List (List (Nat × pE)) := [[(0, (1, 2, 0, 0, 0)), (1, (1, 2, 0, 1, 0)), (2, (1, 9, 0, 0, 4)), (3, (1, 0, 1, 0, 0)), (4, (1, 9, 0, 0, 6)), (5, (1, 0, 1, 0, 0)), (6, (3, 24, 0, 13, 0)), (9, (1, 0, 1, 0, 0)), (10, (3, 22, 0, 14, 0)), (13, (1, 0, 0, 0, 0)), (14, (1, 66, 0, 0, 0))]]
abbrev m_Y_greatestCommon : Nat := 159
def t_Y_greatestCommon : List (List (Nat × pE)) := [[(0, (1, 2, 0, 0, 0)), (1, (1, 5, 0, 2, 0)), (2, (1, 2, 0, 1, 0)), (3, (1, 5, 0, 3, 0)), (4, (1, 0, 0, 0, 0)), (5, (2, 5, 0, 4, 0)), (7, (2, 2, 0, 4, 0)), (9, (2, 0, 64, 0, 0)), (11, (3, 26, 0, 34, 0)), (14, (1, 2, 0, 3, 0)), (15, (3, 29, 0, 34, 0))], [(18, (1, 2, 0, 2, 0)), (19, (1, 2, 0, 3, 0)), (20, (1, 11, 0, 0, 0)), (21, (2, 5, 0, 5, 0)), (23, (1, 2, 0, 3, 0)), (24, (1, 5, 0, 2, 0)), (25, (2, 2, 0, 5, 0)), (27, (1, 5, 0, 3, 0)), (28, (3, 8, 1, 4, 0)), (31, (3, 22, 0, 7, 0))], [(34, (1, 2, 0, 2, 0)), (35, (1, 62, 0, 0, 0))]]
abbrev m_R_thrown : Nat := 160
def t_R_thrown : List (List (Nat × pE)) := [[(0, (1, 3, 0, 0, 0)), (1, (3, 38, 0, 11, 0)), (4, (1, 62, 0, 0, 0))]]
abbrev m_R_may : Nat := 161
def t_R_may : List (List (Nat × pE)) := [[(0, (1, 2, 0, 1, 0)), (1, (3, 30, 0, 26, 0)), (4, (1, 3, 0, 0, 0)), (5, (3, 38, 0, 11, 0)), (8, (3, 30, 0, 26, 0)), (11, (1, 3, 0, 0, 0)), (12, (1, 2, 0, 2, 0)), (13, (3, 41, 0, 11, 0))], [(16, (1, 3, 0, 0, 0)), (17, (3, 39, 0, 11, 1)), (20, (1, 2, 0, 3, 0)), (21, (1, 19, 0, 0, 0)), (22, (1, 43, 0, 0, 0)), (23, (1, 0, 1, 0, 0)), (24, (1, 9, 0, 0, 0)), (25, (1, 44, 0, 0, 0)), (26, (1, 3, 0, 0, 0)), (27, (3, 38, 0, 11, 0)), (30, (3, 30, 0, 37, 0))], [(33, (1, 0, 1, 0, 0)), (34, (3, 22, 0, 38, 0)), (37, (1, 0, 0, 0, 0)), (38, (1, 66, 0, 0, 0))]]
abbrev m_R_within : Nat := 162
def t_R_within : List (List (Nat × pE)) := [[(0, (1, 2, 0, 0, 0)), (1, (1, 2, 0, 1, 0)), (2, (3, 25, 0, 14, 0)), (5, (1, 2, 0, 0, 0)), (6, (1, 2, 0, 2, 0)), (7, (3, 27, 0, 14, 0)), (10, (1, 0, 1, 0, 0)), (11, (3, 22, 0, 15, 0)), (14, (1, 0, 0, 0, 0)), (15, (1, 66, 0, 0, 0))]]
abbrev m_R_init : Nat := 163
def t_R_init : List (List (Nat × pE)) := [[(0, (1, 3, 0, 0, 0)), (1, (3, 58, 0, 0, 0)), (4, (1, 3, 0, 0, 0)), (5, (1, 0, 2, 0, 0)), (6, (2, 50, 0, 0, 0)), (8, (3, 42, 0, 11, 1)), (11, (1, 3, 0, 0, 0)), (12, (1, 0, (-1), 0, 0)), (13, (3, 41, 0, 11, 8))], [(16, (1, 3, 0, 0, 0)), (17, (3, 0, 600, 0, 0)), (20, (2, 50, 0, 0, 0)), (22, (3, 42, 0, 11, 9)), (25, (1, 3, 0, 0, 0)), (26, (2, 0, 8, 0, 0)), (28, (2, 50, 0, 0, 0)), (30, (3, 42, 0, 11, 10))], [(33, (1, 3, 0, 0, 0)), (34, (2, 0, 6, 0, 0)), (36, (2, 50, 0, 0, 0)), (38, (3, 42, 0, 11, 11)), (41, (1, 3, 0, 0, 0)), (42, (2, 0, 6, 0, 0)), (44, (2, 50, 0, 0, 0)), (46, (3, 42, 0, 11, 12))], [(49, (1, 3, 0, 0, 0)), (50, (2, 0, 8, 0, 0)), (52, (2, 50, 0, 0, 0)), (54, (3, 42, 0, 11, 13)), (57, (1, 3, 0, 0, 0)), (58, (2, 0, 6, 0, 0)), (60, (2, 50, 0, 0, 0)), (62, (3, 42, 0, 11, 14))], [(65, (1, 3, 0, 0, 0)), (66, (2, 0, 6, 0, 0)), (68, (2, 50, 0, 0, 0)), (70, (3, 42, 0, 11, 15)), (73, (1, 3, 0, 0, 0)), (74, (2, 0, 8, 0, 0)), (76, (2, 50, 0, 0, 0)), (78, (3, 42, 0, 11, 16))], [(81, (1, 3, 0, 0, 0)), (82, (3, 0, 150, 0, 0)), (85, (2, 50, 0, 0, 0)), (87, (3, 42, 0, 11, 26)), (90, (1, 3, 0, 0, 0)), (91, (3, 0, 150, 0, 0)), (94, (2, 50, 0, 0, 0))], [(96, (3, 42, 0, 11, 27)), (99, (1, 3, 0, 0, 0)), (100, (3, 0, 150, 0, 0)), (103, (2, 50, 0, 0, 0)), (105, (3, 42, 0, 11, 28)), (108, (1, 3, 0, 0, 0)), (109, (3, 0, 150, 0, 0))], [(112, (2, 50, 0, 0, 0)), (114, (3, 42, 0, 11, 29)), (117, (1, 3, 0, 0, 0)), (118, (3, 0, 150, 0, 0)), (121, (2, 50, 0, 0, 0)), (123, (3, 42, 0, 11, 30)), (126, (1, 3, 0, 0, 0)), (127, (2, 0, 8, 0, 0))], [(129, (2, 50, 0, 0, 0)), (131, (3, 42, 0, 11, 33)), (134, (1, 3, 0, 0, 0)), (135, (3, 0, 150, 0, 0)), (138, (2, 50, 0, 0, 0)), (140, (3, 42, 0, 11, 34)), (143, (1, 3, 0, 0, 0))], [(144, (3, 0, 150, 0, 0)), (147, (2, 50, 0, 0, 0)), (149, (3, 42, 0, 11, 35)), (152, (1, 3, 0, 0, 0)), (153, (2, 0, 76, 0, 0)), (155, (2, 50, 0, 0, 0)), (157, (3, 42, 0, 11, 42))], [(160, (1, 3, 0, 0, 0)), (161, (2, 0, 76, 0, 0)), (163, (2, 50, 0, 0, 0)), (165, (3, 42, 0, 11, 43)), (168, (1, 3, 0, 0, 0)), (169, (3, 0, 1216, 0, 0)), (172, (2, 50, 0, 0, 0)), (174, (3, 42, 0, 11, 44))], [(177, (1, 3, 0, 0, 0)), (178, (2, 0, 6, 0, 0)), (180, (2, 50, 0, 0, 0)), (182, (3, 42, 0, 11, 45)), (185, (1, 3, 0, 0, 0)), (186, (2, 0, 8, 0, 0)), (188, (2, 50, 0, 0, 0)), (190, (3, 42, 0, 11, 46))], [(193, (1, 3, 0, 0, 0)), (194, (2, 0, 8, 0, 0)), (196, (2, 50, 0, 0, 0)), (198, (3, 42, 0, 11, 47)), (201, (1, 3, 0, 0, 0)), (202, (3, 0, 1792, 0, 0)), (205, (2, 50, 0, 0, 0)), (207, (3, 42, 0, 11, 49))], [(210, (1, 3, 0, 0, 0)), (211, (2, 0, 8, 0, 0)), (213, (2, 50, 0, 0, 0)), (215, (3, 42, 0, 11, 50)), (218, (1, 3, 0, 0, 0)), (219, (2, 0, 8, 0, 0)), (221, (2, 50, 0, 0, 0)), (223, (3, 42, 0, 11, 51))], [(226, (1, 3, 0, 0, 0)), (227, (3, 0, 3879, 0, 0)), (230, (2, 50, 0, 0, 0)), (232, (3, 42, 0, 11, 53)), (235, (1, 3, 0, 0, 0)), (236, (3, 55, 0, 180, 1)), (239, (1, 3, 0, 0, 0))], [(240, (3, 55, 0, 181, 1)), (243, (1, 65, 0, 0, 0))]]
abbrev m_R_feed : Nat := 164
def t_R_feed : List (List (Nat × pE)) := [[(0, (1, 3, 0, 0, 0)), (1, (1, 0, 0, 0, 0)), (2, (3, 41, 0, 11, 0)), (5, (1, 3, 0, 0, 0)), (6, (3, 38, 0, 11, 2)), (9, (2, 0, 20, 0, 0)), (11, (1, 9, 0, 0, 0)), (12, (3, 0, 600, 0, 0)), (15, (3, 28, 0, 20, 0))], [(18, (1, 0, (-1), 0, 0)), (19, (1, 62, 0, 0, 0)), (20, (1, 0, 0, 0, 0)), (21, (2, 5, 0, 6, 0)), (23, (2, 2, 0, 6, 0)), (25, (2, 0, 20, 0, 0)), (27, (3, 26, 0, 120, 0)), (30, (2, 2, 0, 6, 0))], [(32, (1, 0, 4, 0, 0)), (33, (3, 26, 0, 40, 0)), (36, (1, 2, 0, 1, 0)), (37, (3, 22, 0, 76, 0)), (40, (2, 2, 0, 6, 0)), (42, (2, 0, 8, 0, 0)), (44, (3, 26, 0, 51, 0)), (47, (1, 2, 0, 2, 0))], [(48, (3, 22, 0, 76, 0)), (51, (2, 2, 0, 6, 0)), (53, (2, 0, 12, 0, 0)), (55, (3, 26, 0, 62, 0)), (58, (1, 2, 0, 3, 0)), (59, (3, 22, 0, 76, 0)), (62, (2, 2, 0, 6, 0))], [(64, (2, 0, 16, 0, 0)), (66, (3, 26, 0, 74, 0)), (69, (2, 2, 0, 4, 0)), (71, (3, 22, 0, 76, 0)), (74, (2, 2, 0, 5, 0)), (76, (2, 5, 0, 7, 0)), (78, (1, 3, 0, 0, 0)), (79, (3, 39, 0, 11, 9))], [(82, (1, 3, 0, 0, 0)), (83, (3, 38, 0, 11, 2)), (86, (2, 2, 0, 7, 0)), (88, (2, 0, 24, 0, 0)), (90, (2, 0, 8, 0, 0)), (92, (2, 2, 0, 6, 0)), (94, (1, 0, 4, 0, 0)), (95, (1, 11, 0, 0, 0))], [(96, (1, 9, 0, 0, 2)), (97, (1, 9, 0, 0, 1)), (98, (1, 9, 0, 0, 4)), (99, (3, 0, 255, 0, 0)), (102, (1, 9, 0, 0, 6)), (103, (1, 44, 0, 0, 0)), (104, (1, 3, 0, 0, 0)), (105, (1, 18, 0, 0, 0)), (106, (3, 38, 0, 11, 2)), (109, (1, 0, 1, 0, 0)), (110, (1, 9, 0, 0, 0)), (111, (3, 41, 0, 11, 2))], [(114, (3, 8, 1, 6, 0)), (117, (3, 22, 0, 23, 0)), (120, (1, 3, 0, 0, 0)), (121, (3, 38, 0, 11, 2)), (124, (1, 62, 0, 0, 0))]]
abbrev m_R_fine : Nat := 165
def t_R_fine : List (List (Nat × pE)) := [[(0, (1, 3, 0, 0, 0)), (1, (3, 38, 0, 11, 5)), (4, (1, 0, (-1), 0, 0)), (5, (3, 24, 0, 12, 0)), (8, (1, 0, 1, 0, 0)), (9, (3, 22, 0, 13, 0)), (12, (1, 0, 0, 0, 0)), (13, (1, 66, 0, 0, 0))]]
abbrev m_R_wrong : Nat := 166
def t_R_wrong : List (List (Nat × pE)) := [[(0, (1, 3, 0, 0, 0)), (1, (3, 38, 0, 11, 5)), (4, (1, 0, (-1), 0, 0)), (5, (3, 23, 0, 9, 0)), (8, (1, 65, 0, 0, 0)), (9, (1, 3, 0, 0, 0)), (10, (1, 2, 0, 2, 0)), (11, (3, 41, 0, 11, 5)), (14, (1, 3, 0, 0, 0)), (15, (1, 2, 0, 1, 0))], [(16, (3, 41, 0, 11, 6)), (19, (1, 65, 0, 0, 0))]]
abbrev m_R_here : Nat := 167
def t_R_here : List (List (Nat × pE)) := [[(0, (1, 3, 0, 0, 0)), (1, (3, 38, 0, 11, 4)), (4, (1, 3, 0, 0, 0)), (5, (3, 38, 0, 11, 3)), (8, (3, 26, 0, 38, 0)), (11, (1, 3, 0, 0, 0)), (12, (3, 39, 0, 11, 9)), (15, (1, 3, 0, 0, 0))], [(16, (3, 38, 0, 11, 4)), (19, (1, 43, 0, 0, 0)), (20, (2, 0, 32, 0, 0)), (22, (3, 24, 0, 38, 0)), (25, (1, 3, 0, 0, 0)), (26, (1, 18, 0, 0, 0)), (27, (3, 38, 0, 11, 4)), (30, (1, 0, 1, 0, 0)), (31, (1, 9, 0, 0, 0))], [(32, (3, 41, 0, 11, 4)), (35, (3, 22, 0, 0, 0)), (38, (1, 3, 0, 0, 0)), (39, (3, 38, 0, 11, 4)), (42, (1, 3, 0, 0, 0)), (43, (3, 38, 0, 11, 3)), (46, (3, 26, 0, 61, 0))], [(49, (1, 3, 0, 0, 0)), (50, (3, 39, 0, 11, 9)), (53, (1, 3, 0, 0, 0)), (54, (3, 38, 0, 11, 4)), (57, (1, 43, 0, 0, 0)), (58, (3, 22, 0, 62, 0)), (61, (1, 0, 0, 0, 0)), (62, (1, 62, 0, 0, 0))]]
abbrev m_R_isSmall : Nat := 168
def t_R_isSmall : List (List (Nat × pE)) := [[(0, (1, 2, 0, 0, 0)), (1, (2, 0, 97, 0, 0)), (3, (3, 25, 0, 16, 0)), (6, (1, 2, 0, 0, 0)), (7, (2, 0, 122, 0, 0)), (9, (3, 27, 0, 16, 0)), (12, (1, 0, 1, 0, 0)), (13, (3, 22, 0, 17, 0))], [(16, (1, 0, 0, 0, 0)), (17, (1, 66, 0, 0, 0))]]
abbrev m_R_isDigit : Nat := 169
def t_R_isDigit : List (List (Nat × pE)) := [[(0, (1, 2, 0, 0, 0)), (1, (2, 0, 48, 0, 0)), (3, (3, 25, 0, 16, 0)), (6, (1, 2, 0, 0, 0)), (7, (2, 0, 57, 0, 0)), (9, (3, 27, 0, 16, 0)), (12, (1, 0, 1, 0, 0)), (13, (3, 22, 0, 17, 0))], [(16, (1, 0, 0, 0, 0)), (17, (1, 66, 0, 0, 0))]]
abbrev m_R_word : Nat := 170
def t_R_word : List (List (Nat × pE)) := [[(0, (1, 3, 0, 0, 0)), (1, (3, 55, 1, 167, 1)), (4, (1, 20, 0, 0, 0)), (5, (1, 0, 0, 0, 0)), (6, (1, 5, 0, 1, 0)), (7, (1, 0, 0, 0, 0)), (8, (1, 5, 0, 2, 0)), (9, (1, 3, 0, 0, 0)), (10, (3, 38, 0, 11, 4)), (13, (1, 5, 0, 3, 0)), (14, (1, 2, 0, 3, 0)), (15, (1, 3, 0, 0, 0))], [(16, (3, 38, 0, 11, 3)), (19, (3, 26, 0, 67, 0)), (22, (1, 3, 0, 0, 0)), (23, (3, 39, 0, 11, 9)), (26, (1, 2, 0, 3, 0)), (27, (1, 43, 0, 0, 0)), (28, (3, 56, 1, 168, 1)), (31, (3, 29, 0, 67, 0))], [(34, (1, 2, 0, 2, 0)), (35, (2, 0, 6, 0, 0)), (37, (3, 26, 0, 56, 0)), (40, (1, 2, 0, 1, 0)), (41, (1, 0, 5, 0, 0)), (42, (1, 9, 0, 0, 3)), (43, (1, 3, 0, 0, 0)), (44, (3, 39, 0, 11, 9)), (47, (1, 2, 0, 3, 0))], [(48, (1, 43, 0, 0, 0)), (49, (2, 0, 96, 0, 0)), (51, (1, 9, 0, 0, 1)), (52, (1, 9, 0, 0, 7)), (53, (3, 22, 0, 57, 0)), (56, (1, 0, 0, 0, 0)), (57, (1, 5, 0, 1, 0)), (58, (3, 8, 1, 2, 0)), (61, (3, 8, 1, 3, 0))], [(64, (3, 22, 0, 14, 0)), (67, (1, 2, 0, 2, 0)), (68, (2, 0, 6, 0, 0)), (70, (3, 28, 0, 77, 0)), (73, (1, 0, 0, 0, 0)), (74, (3, 22, 0, 78, 0)), (77, (1, 2, 0, 1, 0)), (78, (1, 62, 0, 0, 0))]]
abbrev m_R_of : Nat := 171
def t_R_of : List (List (Nat × pE)) := [[(0, (1, 0, 0, 0, 0)), (1, (1, 5, 0, 1, 0)), (2, (1, 0, 0, 0, 0)), (3, (1, 5, 0, 2, 0)), (4, (1, 2, 0, 2, 0)), (5, (1, 3, 0, 0, 0)), (6, (3, 60, 0, 0, 0)), (9, (3, 26, 0, 31, 0)), (12, (1, 2, 0, 1, 0)), (13, (1, 0, 5, 0, 0)), (14, (1, 9, 0, 0, 3)), (15, (1, 3, 0, 0, 0))], [(16, (1, 2, 0, 2, 0)), (17, (3, 61, 0, 0, 0)), (20, (2, 0, 96, 0, 0)), (22, (1, 9, 0, 0, 1)), (23, (1, 9, 0, 0, 7)), (24, (1, 5, 0, 1, 0)), (25, (3, 8, 1, 2, 0)), (28, (3, 22, 0, 4, 0)), (31, (1, 2, 0, 1, 0))], [(32, (1, 62, 0, 0, 0))]]
abbrev m_R_pass : Nat := 172
def t_R_pass : List (List (Nat × pE)) := [[(0, (1, 3, 0, 0, 0)), (1, (3, 38, 0, 11, 4)), (4, (1, 3, 0, 0, 0)), (5, (3, 38, 0, 11, 3)), (8, (3, 26, 0, 39, 0)), (11, (1, 3, 0, 0, 0)), (12, (3, 39, 0, 11, 9)), (15, (1, 3, 0, 0, 0))], [(16, (3, 38, 0, 11, 4)), (19, (1, 43, 0, 0, 0)), (20, (3, 56, 1, 168, 1)), (23, (3, 29, 0, 39, 0)), (26, (1, 3, 0, 0, 0)), (27, (1, 18, 0, 0, 0)), (28, (3, 38, 0, 11, 4)), (31, (1, 0, 1, 0, 0))], [(32, (1, 9, 0, 0, 0)), (33, (3, 41, 0, 11, 4)), (36, (3, 22, 0, 0, 0)), (39, (1, 65, 0, 0, 0))]]
abbrev m_R_readNumber : Nat := 173
def t_R_readNumber : List (List (Nat × pE)) := [[(0, (1, 3, 0, 0, 0)), (1, (3, 55, 1, 165, 1)), (4, (3, 30, 0, 9, 0)), (7, (1, 0, 0, 0, 0)), (8, (1, 62, 0, 0, 0)), (9, (1, 3, 0, 0, 0)), (10, (3, 55, 1, 167, 1)), (13, (1, 5, 0, 3, 0)), (14, (1, 3, 0, 0, 0)), (15, (3, 38, 0, 11, 4))], [(18, (2, 5, 0, 4, 0)), (20, (1, 0, 0, 0, 0)), (21, (2, 5, 0, 5, 0)), (23, (1, 2, 0, 3, 0)), (24, (3, 56, 1, 169, 1)), (27, (3, 30, 0, 41, 0)), (30, (1, 3, 0, 0, 0)), (31, (1, 0, 1, 0, 0))], [(32, (1, 3, 0, 0, 0)), (33, (3, 38, 0, 11, 4)), (36, (3, 55, 0, 166, 3)), (39, (1, 0, 0, 0, 0)), (40, (1, 62, 0, 0, 0)), (41, (1, 3, 0, 0, 0)), (42, (3, 38, 0, 11, 4)), (45, (1, 3, 0, 0, 0)), (46, (3, 38, 0, 11, 3))], [(49, (3, 26, 0, 114, 0)), (52, (1, 3, 0, 0, 0)), (53, (3, 39, 0, 11, 9)), (56, (1, 3, 0, 0, 0)), (57, (3, 38, 0, 11, 4)), (60, (1, 43, 0, 0, 0)), (61, (3, 56, 1, 169, 1))], [(64, (3, 29, 0, 114, 0)), (67, (2, 2, 0, 5, 0)), (69, (3, 0, 9999, 0, 0)), (72, (3, 28, 0, 81, 0)), (75, (3, 0, 10000, 0, 0)), (78, (3, 22, 0, 99, 0))], [(81, (2, 0, 10, 0, 0)), (83, (2, 2, 0, 5, 0)), (85, (1, 9, 0, 0, 2)), (86, (1, 3, 0, 0, 0)), (87, (3, 39, 0, 11, 9)), (90, (1, 3, 0, 0, 0)), (91, (3, 38, 0, 11, 4)), (94, (1, 43, 0, 0, 0)), (95, (1, 9, 0, 0, 0))], [(96, (2, 0, 48, 0, 0)), (98, (1, 9, 0, 0, 1)), (99, (2, 5, 0, 5, 0)), (101, (1, 3, 0, 0, 0)), (102, (1, 18, 0, 0, 0)), (103, (3, 38, 0, 11, 4)), (106, (1, 0, 1, 0, 0)), (107, (1, 9, 0, 0, 0)), (108, (3, 41, 0, 11, 4)), (111, (3, 22, 0, 41, 0))], [(114, (2, 2, 0, 5, 0)), (116, (1, 2, 0, 1, 0)), (117, (3, 25, 0, 126, 0)), (120, (2, 2, 0, 5, 0)), (122, (1, 2, 0, 2, 0)), (123, (3, 28, 0, 135, 0)), (126, (1, 3, 0, 0, 0)), (127, (1, 0, 2, 0, 0))], [(128, (2, 2, 0, 4, 0)), (130, (3, 55, 0, 166, 3)), (133, (1, 0, 0, 0, 0)), (134, (1, 62, 0, 0, 0)), (135, (2, 2, 0, 5, 0)), (137, (1, 62, 0, 0, 0))]]
abbrev m_R_sign : Nat := 174
def t_R_sign : List (List (Nat × pE)) := [[(0, (1, 3, 0, 0, 0)), (1, (3, 55, 1, 165, 1)), (4, (3, 29, 0, 24, 0)), (7, (1, 3, 0, 0, 0)), (8, (3, 55, 1, 167, 1)), (11, (1, 2, 0, 1, 0)), (12, (3, 23, 0, 24, 0)), (15, (1, 3, 0, 0, 0))], [(16, (1, 0, 1, 0, 0)), (17, (1, 3, 0, 0, 0)), (18, (3, 38, 0, 11, 4)), (21, (3, 55, 0, 166, 3)), (24, (1, 3, 0, 0, 0)), (25, (3, 55, 1, 165, 1)), (28, (3, 29, 0, 41, 0)), (31, (1, 3, 0, 0, 0))], [(32, (1, 18, 0, 0, 0)), (33, (3, 38, 0, 11, 4)), (36, (1, 0, 1, 0, 0)), (37, (1, 9, 0, 0, 0)), (38, (3, 41, 0, 11, 4)), (41, (1, 65, 0, 0, 0))]]
abbrev m_R_isMore : Nat := 175
def t_R_isMore : List (List (Nat × pE)) := [[(0, (1, 3, 0, 0, 0)), (1, (3, 55, 1, 167, 1)), (4, (1, 20, 0, 0, 0)), (5, (1, 3, 0, 0, 0)), (6, (3, 38, 0, 11, 4)), (9, (1, 3, 0, 0, 0)), (10, (3, 38, 0, 11, 3)), (13, (3, 26, 0, 20, 0))], [(16, (1, 0, 1, 0, 0)), (17, (3, 22, 0, 21, 0)), (20, (1, 0, 0, 0, 0)), (21, (1, 66, 0, 0, 0))]]
abbrev m_R_begins : Nat := 176
def t_R_begins : List (List (Nat × pE)) := [[(0, (1, 3, 0, 0, 0)), (1, (1, 0, 0, 0, 0)), (2, (3, 41, 0, 11, 2)), (5, (1, 3, 0, 0, 0)), (6, (1, 0, (-1), 0, 0)), (7, (3, 41, 0, 11, 8)), (10, (1, 3, 0, 0, 0)), (11, (1, 2, 0, 1, 0)), (12, (3, 41, 0, 11, 3)), (15, (1, 3, 0, 0, 0))], [(16, (1, 0, 0, 0, 0)), (17, (3, 41, 0, 11, 4)), (20, (1, 3, 0, 0, 0)), (21, (1, 0, (-1), 0, 0)), (22, (3, 41, 0, 11, 5)), (25, (1, 3, 0, 0, 0)), (26, (1, 0, 0, 0, 0)), (27, (3, 41, 0, 11, 7)), (30, (1, 65, 0, 0, 0))]]
abbrev m_R_result : Nat := 177
def t_R_result : List (List (Nat × pE)) := [[(0, (1, 3, 0, 0, 0)), (1, (1, 3, 0, 0, 0)), (2, (3, 38, 0, 11, 5)), (5, (3, 41, 0, 11, 8)), (8, (1, 3, 0, 0, 0)), (9, (3, 55, 1, 165, 1)), (12, (3, 29, 0, 19, 0)), (15, (1, 2, 0, 1, 0))], [(16, (3, 22, 0, 26, 0)), (19, (1, 3, 0, 0, 0)), (20, (3, 38, 0, 11, 6)), (23, (2, 0, 10, 0, 0)), (25, (1, 9, 0, 0, 1)), (26, (1, 62, 0, 0, 0))]]
abbrev m_R_fault : Nat := 178
def t_R_fault : List (List (Nat × pE)) := [[(0, (1, 3, 0, 0, 0)), (1, (1, 0, 0, 0, 0)), (2, (3, 41, 0, 11, 0)), (5, (1, 3, 0, 0, 0)), (6, (3, 38, 0, 11, 8)), (9, (1, 62, 0, 0, 0))]]
abbrev m_R_copies : Nat := 179
def t_R_copies : List (List (Nat × pE)) := [[(0, (1, 0, 0, 0, 0)), (1, (2, 5, 0, 4, 0)), (3, (2, 2, 0, 4, 0)), (5, (1, 2, 0, 3, 0)), (6, (3, 26, 0, 23, 0)), (9, (1, 3, 0, 2, 0)), (10, (2, 2, 0, 4, 0)), (12, (1, 3, 0, 1, 0)), (13, (2, 2, 0, 4, 0)), (15, (1, 43, 0, 0, 0))], [(16, (1, 44, 0, 0, 0)), (17, (3, 8, 1, 4, 0)), (20, (3, 22, 0, 3, 0)), (23, (1, 65, 0, 0, 0))]]
abbrev m_R_clears : Nat := 180
def t_R_clears : List (List (Nat × pE)) := [[(0, (1, 3, 0, 0, 0)), (1, (1, 0, 0, 0, 0)), (2, (3, 41, 0, 11, 17)), (5, (1, 3, 0, 0, 0)), (6, (1, 0, 0, 0, 0)), (7, (3, 41, 0, 11, 18)), (10, (1, 3, 0, 0, 0)), (11, (1, 0, 0, 0, 0)), (12, (3, 41, 0, 11, 19)), (15, (1, 3, 0, 0, 0))], [(16, (3, 0, 365, 0, 0)), (19, (3, 41, 0, 11, 20)), (22, (1, 3, 0, 0, 0)), (23, (2, 0, 20, 0, 0)), (25, (3, 41, 0, 11, 21)), (28, (1, 65, 0, 0, 0))]]
abbrev m_R_sets : Nat := 181
def t_R_sets : List (List (Nat × pE)) := [[(0, (1, 3, 0, 0, 0)), (1, (1, 3, 0, 0, 0)), (2, (3, 38, 0, 11, 17)), (5, (3, 41, 0, 11, 22)), (8, (1, 3, 0, 0, 0)), (9, (1, 3, 0, 0, 0)), (10, (3, 38, 0, 11, 18)), (13, (3, 41, 0, 11, 23))], [(16, (1, 3, 0, 0, 0)), (17, (1, 3, 0, 0, 0)), (18, (3, 38, 0, 11, 19)), (21, (3, 41, 0, 11, 24)), (24, (1, 3, 0, 0, 0)), (25, (1, 3, 0, 0, 0)), (26, (3, 38, 0, 11, 20)), (29, (3, 41, 0, 11, 25))], [(32, (1, 3, 0, 0, 0)), (33, (1, 3, 0, 0, 0)), (34, (3, 39, 0, 11, 11)), (37, (1, 3, 0, 0, 0)), (38, (3, 39, 0, 11, 14)), (41, (2, 0, 6, 0, 0)), (43, (3, 55, 0, 179, 4)), (46, (1, 3, 0, 0, 0)), (47, (1, 3, 0, 0, 0))], [(48, (3, 39, 0, 11, 12)), (51, (1, 3, 0, 0, 0)), (52, (3, 39, 0, 11, 15)), (55, (2, 0, 6, 0, 0)), (57, (3, 55, 0, 179, 4)), (60, (1, 3, 0, 0, 0)), (61, (1, 3, 0, 0, 0)), (62, (3, 39, 0, 11, 13))], [(65, (1, 3, 0, 0, 0)), (66, (3, 39, 0, 11, 16)), (69, (2, 0, 8, 0, 0)), (71, (3, 55, 0, 179, 4)), (74, (1, 3, 0, 0, 0)), (75, (1, 0, 0, 0, 0)), (76, (3, 41, 0, 11, 32)), (79, (1, 3, 0, 0, 0))], [(80, (1, 0, 0, 0, 0)), (81, (3, 41, 0, 11, 48)), (84, (1, 3, 0, 0, 0)), (85, (1, 0, 0, 0, 0)), (86, (3, 41, 0, 11, 37)), (89, (1, 3, 0, 0, 0)), (90, (1, 0, 0, 0, 0)), (91, (3, 41, 0, 11, 54)), (94, (1, 3, 0, 0, 0)), (95, (1, 0, 0, 0, 0))], [(96, (3, 41, 0, 11, 38)), (99, (1, 0, 0, 0, 0)), (100, (1, 5, 0, 1, 0)), (101, (1, 2, 0, 1, 0)), (102, (2, 0, 8, 0, 0)), (104, (3, 26, 0, 120, 0)), (107, (1, 3, 0, 0, 0)), (108, (3, 39, 0, 11, 47)), (111, (1, 2, 0, 1, 0))], [(112, (1, 0, (-1), 0, 0)), (113, (1, 44, 0, 0, 0)), (114, (3, 8, 1, 1, 0)), (117, (3, 22, 0, 101, 0)), (120, (1, 0, 0, 0, 0)), (121, (1, 5, 0, 1, 0)), (122, (1, 2, 0, 1, 0)), (123, (2, 0, 76, 0, 0)), (125, (3, 26, 0, 141, 0))], [(128, (1, 3, 0, 0, 0)), (129, (3, 39, 0, 11, 42)), (132, (1, 2, 0, 1, 0)), (133, (1, 0, 0, 0, 0)), (134, (1, 44, 0, 0, 0)), (135, (3, 8, 1, 1, 0)), (138, (3, 22, 0, 122, 0)), (141, (1, 0, 0, 0, 0)), (142, (1, 5, 0, 1, 0)), (143, (1, 2, 0, 1, 0))], [(144, (1, 3, 0, 0, 0)), (145, (3, 38, 0, 11, 22)), (148, (3, 26, 0, 171, 0)), (151, (1, 3, 0, 0, 0)), (152, (3, 39, 0, 11, 42)), (155, (1, 0, 0, 0, 0)), (156, (1, 2, 0, 1, 0)), (157, (1, 9, 0, 0, 0)), (158, (1, 3, 0, 0, 0)), (159, (3, 39, 0, 11, 10))], [(162, (1, 2, 0, 1, 0)), (163, (1, 43, 0, 0, 0)), (164, (1, 44, 0, 0, 0)), (165, (3, 8, 1, 1, 0)), (168, (3, 22, 0, 143, 0)), (171, (1, 0, 0, 0, 0)), (172, (1, 5, 0, 1, 0)), (173, (1, 2, 0, 1, 0)), (174, (2, 0, 6, 0, 0))], [(176, (3, 26, 0, 195, 0)), (179, (1, 3, 0, 0, 0)), (180, (3, 39, 0, 11, 42)), (183, (2, 0, 8, 0, 0)), (185, (1, 2, 0, 1, 0)), (186, (1, 9, 0, 0, 0)), (187, (1, 0, (-1), 0, 0)), (188, (1, 44, 0, 0, 0)), (189, (3, 8, 1, 1, 0))], [(192, (3, 22, 0, 173, 0)), (195, (1, 3, 0, 0, 0)), (196, (3, 39, 0, 11, 42)), (199, (2, 0, 74, 0, 0)), (201, (1, 3, 0, 0, 0)), (202, (3, 38, 0, 11, 21)), (205, (1, 44, 0, 0, 0)), (206, (1, 65, 0, 0, 0))]]
abbrev m_R_isShort : Nat := 182
def t_R_isShort : List (List (Nat × pE)) := [[(0, (1, 2, 0, 0, 0)), (1, (2, 67, 0, 22, 0)), (3, (3, 56, 1, 171, 1)), (6, (3, 23, 0, 36, 0)), (9, (1, 2, 0, 0, 0)), (10, (2, 67, 0, 23, 0)), (12, (3, 56, 1, 171, 1)), (15, (3, 23, 0, 36, 0))], [(18, (1, 2, 0, 0, 0)), (19, (2, 67, 0, 24, 0)), (21, (3, 56, 1, 171, 1)), (24, (3, 23, 0, 36, 0)), (27, (1, 2, 0, 0, 0)), (28, (2, 67, 0, 25, 0)), (30, (3, 56, 1, 171, 1))], [(33, (3, 24, 0, 40, 0)), (36, (1, 0, 1, 0, 0)), (37, (3, 22, 0, 41, 0)), (40, (1, 0, 0, 0, 0)), (41, (1, 66, 0, 0, 0))]]
abbrev m_R_isFull : Nat := 183
def t_R_isFull : List (List (Nat × pE)) := [[(0, (1, 2, 0, 2, 0)), (1, (3, 29, 0, 21, 0)), (4, (1, 3, 0, 0, 0)), (5, (3, 38, 0, 11, 19)), (8, (2, 0, 8, 0, 0)), (10, (3, 24, 0, 17, 0)), (13, (1, 0, 1, 0, 0)), (14, (3, 22, 0, 70, 0))], [(17, (1, 0, 0, 0, 0)), (18, (3, 22, 0, 70, 0)), (21, (1, 2, 0, 1, 0)), (22, (2, 67, 0, 22, 0)), (24, (3, 56, 1, 171, 1)), (27, (3, 24, 0, 47, 0)), (30, (1, 3, 0, 0, 0)), (31, (3, 38, 0, 11, 17))], [(34, (2, 0, 8, 0, 0)), (36, (3, 24, 0, 43, 0)), (39, (1, 0, 1, 0, 0)), (40, (3, 22, 0, 70, 0)), (43, (1, 0, 0, 0, 0)), (44, (3, 22, 0, 70, 0)), (47, (1, 2, 0, 1, 0))], [(48, (2, 67, 0, 23, 0)), (50, (3, 56, 1, 171, 1)), (53, (3, 24, 0, 69, 0)), (56, (1, 3, 0, 0, 0)), (57, (3, 38, 0, 11, 18)), (60, (2, 0, 6, 0, 0)), (62, (3, 24, 0, 69, 0))], [(65, (1, 0, 1, 0, 0)), (66, (3, 22, 0, 70, 0)), (69, (1, 0, 0, 0, 0)), (70, (1, 66, 0, 0, 0))]]
abbrev m_R_readRow : Nat := 184
def t_R_readRow : List (List (Nat × pE)) := [[(0, (1, 2, 0, 2, 0)), (1, (3, 29, 0, 34, 0)), (4, (1, 3, 0, 0, 0)), (5, (3, 39, 0, 11, 13)), (8, (1, 3, 0, 0, 0)), (9, (3, 38, 0, 11, 19)), (12, (1, 3, 0, 0, 0)), (13, (1, 0, 1, 0, 0)), (14, (3, 0, 400, 0, 0))], [(17, (3, 55, 1, 173, 3)), (20, (1, 44, 0, 0, 0)), (21, (1, 3, 0, 0, 0)), (22, (1, 18, 0, 0, 0)), (23, (3, 38, 0, 11, 19)), (26, (1, 0, 1, 0, 0)), (27, (1, 9, 0, 0, 0)), (28, (3, 41, 0, 11, 19)), (31, (3, 22, 0, 161, 0))], [(34, (1, 2, 0, 1, 0)), (35, (2, 67, 0, 22, 0)), (37, (3, 56, 1, 171, 1)), (40, (3, 24, 0, 72, 0)), (43, (1, 3, 0, 0, 0)), (44, (3, 39, 0, 11, 10)), (47, (1, 3, 0, 0, 0))], [(48, (3, 38, 0, 11, 17)), (51, (1, 3, 0, 0, 0)), (52, (1, 0, 0, 0, 0)), (53, (2, 0, 9, 0, 0)), (55, (3, 55, 1, 173, 3)), (58, (1, 44, 0, 0, 0)), (59, (1, 3, 0, 0, 0)), (60, (1, 18, 0, 0, 0)), (61, (3, 38, 0, 11, 17))], [(64, (1, 0, 1, 0, 0)), (65, (1, 9, 0, 0, 0)), (66, (3, 41, 0, 11, 17)), (69, (3, 22, 0, 161, 0)), (72, (1, 2, 0, 1, 0)), (73, (2, 67, 0, 23, 0)), (75, (3, 56, 1, 171, 1)), (78, (3, 24, 0, 126, 0))], [(81, (1, 3, 0, 0, 0)), (82, (3, 39, 0, 11, 11)), (85, (1, 3, 0, 0, 0)), (86, (3, 38, 0, 11, 18)), (89, (1, 3, 0, 0, 0)), (90, (1, 0, 1, 0, 0)), (91, (2, 0, 9, 0, 0)), (93, (3, 55, 1, 173, 3))], [(96, (1, 44, 0, 0, 0)), (97, (1, 3, 0, 0, 0)), (98, (3, 39, 0, 11, 12)), (101, (1, 3, 0, 0, 0)), (102, (3, 38, 0, 11, 18)), (105, (1, 3, 0, 0, 0)), (106, (1, 0, 1, 0, 0)), (107, (2, 0, 60, 0, 0)), (109, (3, 55, 1, 173, 3))], [(112, (1, 44, 0, 0, 0)), (113, (1, 3, 0, 0, 0)), (114, (1, 18, 0, 0, 0)), (115, (3, 38, 0, 11, 18)), (118, (1, 0, 1, 0, 0)), (119, (1, 9, 0, 0, 0)), (120, (3, 41, 0, 11, 18)), (123, (3, 22, 0, 161, 0)), (126, (1, 2, 0, 1, 0)), (127, (2, 67, 0, 24, 0))], [(129, (3, 56, 1, 171, 1)), (132, (3, 24, 0, 150, 0)), (135, (1, 3, 0, 0, 0)), (136, (1, 3, 0, 0, 0)), (137, (1, 0, 1, 0, 0)), (138, (3, 0, 400, 0, 0)), (141, (3, 55, 1, 173, 3))], [(144, (3, 41, 0, 11, 20)), (147, (3, 22, 0, 161, 0)), (150, (1, 3, 0, 0, 0)), (151, (1, 3, 0, 0, 0)), (152, (1, 0, 0, 0, 0)), (153, (2, 0, 99, 0, 0)), (155, (3, 55, 1, 173, 3)), (158, (3, 41, 0, 11, 21))], [(161, (1, 65, 0, 0, 0))]]
abbrev m_R_studio : Nat := 185
def t_R_studio : List (List (Nat × pE)) := [[(0, (1, 3, 0, 0, 0)), (1, (1, 0, 0, 0, 0)), (2, (3, 41, 0, 11, 0)), (5, (1, 3, 0, 0, 0)), (6, (1, 2, 0, 1, 0)), (7, (3, 31, 0, 22, 0)), (10, (1, 2, 0, 1, 0)), (11, (1, 3, 0, 0, 0)), (12, (3, 38, 0, 11, 2)), (15, (3, 27, 0, 22, 0))], [(18, (1, 0, 1, 0, 0)), (19, (3, 22, 0, 23, 0)), (22, (1, 0, 0, 0, 0)), (23, (1, 0, 1, 0, 0)), (24, (1, 0, 1, 0, 0)), (25, (3, 55, 1, 161, 4)), (28, (3, 30, 0, 33, 0)), (31, (1, 0, 0, 0, 0))], [(32, (1, 62, 0, 0, 0)), (33, (1, 3, 0, 0, 0)), (34, (1, 2, 0, 1, 0)), (35, (3, 55, 0, 176, 2)), (38, (1, 3, 0, 0, 0)), (39, (3, 55, 0, 180, 1)), (42, (1, 0, 0, 0, 0)), (43, (1, 5, 0, 2, 0)), (44, (1, 3, 0, 0, 0)), (45, (3, 55, 1, 165, 1))], [(48, (3, 29, 0, 153, 0)), (51, (1, 3, 0, 0, 0)), (52, (3, 55, 1, 175, 1)), (55, (3, 29, 0, 153, 0)), (58, (1, 3, 0, 0, 0)), (59, (2, 67, 0, 21, 0)), (61, (3, 55, 1, 191, 2))], [(64, (1, 5, 0, 3, 0)), (65, (1, 3, 0, 0, 0)), (66, (3, 55, 1, 170, 1)), (69, (2, 5, 0, 4, 0)), (71, (1, 2, 0, 3, 0)), (72, (3, 30, 0, 95, 0)), (75, (2, 2, 0, 4, 0)), (77, (3, 56, 1, 182, 1))], [(80, (3, 30, 0, 95, 0)), (83, (1, 3, 0, 0, 0)), (84, (1, 0, 1, 0, 0)), (85, (1, 3, 0, 0, 0)), (86, (3, 38, 0, 11, 4)), (89, (3, 55, 0, 166, 3)), (92, (3, 22, 0, 120, 0)), (95, (1, 2, 0, 2, 0))], [(96, (2, 0, 60, 0, 0)), (98, (3, 23, 0, 111, 0)), (101, (1, 3, 0, 0, 0)), (102, (2, 2, 0, 4, 0)), (104, (1, 2, 0, 3, 0)), (105, (3, 55, 1, 183, 3)), (108, (3, 29, 0, 120, 0)), (111, (1, 3, 0, 0, 0))], [(112, (1, 0, 3, 0, 0)), (113, (1, 3, 0, 0, 0)), (114, (3, 38, 0, 11, 4)), (117, (3, 55, 0, 166, 3)), (120, (1, 3, 0, 0, 0)), (121, (3, 55, 1, 165, 1)), (124, (3, 30, 0, 130, 0)), (127, (3, 22, 0, 153, 0))], [(130, (1, 3, 0, 0, 0)), (131, (3, 55, 0, 172, 1)), (134, (1, 3, 0, 0, 0)), (135, (2, 2, 0, 4, 0)), (137, (1, 2, 0, 3, 0)), (138, (3, 55, 0, 184, 3)), (141, (1, 3, 0, 0, 0)), (142, (2, 0, 59, 0, 0))], [(144, (3, 55, 0, 174, 2)), (147, (3, 8, 1, 2, 0)), (150, (3, 22, 0, 44, 0)), (153, (1, 3, 0, 0, 0)), (154, (1, 3, 0, 0, 0)), (155, (3, 38, 0, 11, 18)), (158, (3, 55, 1, 177, 2))], [(161, (1, 5, 0, 3, 0)), (162, (1, 3, 0, 0, 0)), (163, (3, 38, 0, 11, 5)), (166, (1, 0, (-1), 0, 0)), (167, (3, 24, 0, 174, 0)), (170, (1, 3, 0, 0, 0)), (171, (3, 55, 0, 181, 1)), (174, (1, 2, 0, 3, 0)), (175, (1, 62, 0, 0, 0))]]
abbrev m_R_emit : Nat := 186
def t_R_emit : List (List (Nat × pE)) := [[(0, (1, 3, 0, 0, 0)), (1, (3, 55, 1, 165, 1)), (4, (3, 30, 0, 8, 0)), (7, (1, 65, 0, 0, 0)), (8, (1, 3, 0, 0, 0)), (9, (3, 39, 0, 11, 26)), (12, (1, 3, 0, 0, 0)), (13, (3, 38, 0, 11, 31))], [(16, (1, 2, 0, 1, 0)), (17, (1, 44, 0, 0, 0)), (18, (1, 3, 0, 0, 0)), (19, (3, 39, 0, 11, 27)), (22, (1, 3, 0, 0, 0)), (23, (3, 38, 0, 11, 31)), (26, (1, 2, 0, 2, 0)), (27, (1, 44, 0, 0, 0)), (28, (1, 3, 0, 0, 0)), (29, (1, 18, 0, 0, 0)), (30, (3, 38, 0, 11, 31))], [(33, (1, 0, 1, 0, 0)), (34, (1, 9, 0, 0, 0)), (35, (3, 41, 0, 11, 31)), (38, (1, 65, 0, 0, 0))]]
abbrev m_R_opensOne : Nat := 187
def t_R_opensOne : List (List (Nat × pE)) := [[(0, (1, 3, 0, 0, 0)), (1, (3, 55, 1, 165, 1)), (4, (3, 29, 0, 25, 0)), (7, (1, 3, 0, 0, 0)), (8, (3, 38, 0, 11, 7)), (11, (2, 0, 6, 0, 0)), (13, (3, 24, 0, 25, 0))], [(16, (1, 3, 0, 0, 0)), (17, (1, 0, 3, 0, 0)), (18, (1, 3, 0, 0, 0)), (19, (3, 38, 0, 11, 4)), (22, (3, 55, 0, 166, 3)), (25, (1, 3, 0, 0, 0)), (26, (3, 55, 1, 165, 1)), (29, (3, 29, 0, 42, 0))], [(32, (1, 3, 0, 0, 0)), (33, (1, 18, 0, 0, 0)), (34, (3, 38, 0, 11, 4)), (37, (1, 2, 0, 1, 0)), (38, (1, 9, 0, 0, 0)), (39, (3, 41, 0, 11, 4)), (42, (1, 3, 0, 0, 0)), (43, (1, 18, 0, 0, 0)), (44, (3, 38, 0, 11, 7)), (47, (1, 0, 1, 0, 0))], [(48, (1, 9, 0, 0, 0)), (49, (3, 41, 0, 11, 7)), (52, (1, 65, 0, 0, 0))]]
abbrev m_R_readSum : Nat := 188
def t_R_readSum : List (List (Nat × pE)) := [[(0, (1, 3, 0, 0, 0)), (1, (3, 55, 0, 189, 1)), (4, (1, 3, 0, 0, 0)), (5, (3, 55, 1, 165, 1)), (8, (3, 29, 0, 67, 0)), (11, (1, 3, 0, 0, 0)), (12, (3, 55, 1, 167, 1)), (15, (2, 0, 43, 0, 0))], [(17, (3, 23, 0, 29, 0)), (20, (1, 3, 0, 0, 0)), (21, (3, 55, 1, 167, 1)), (24, (2, 0, 45, 0, 0)), (26, (3, 24, 0, 67, 0)), (29, (1, 3, 0, 0, 0)), (30, (3, 55, 1, 167, 1))], [(33, (2, 0, 43, 0, 0)), (35, (3, 24, 0, 42, 0)), (38, (1, 0, 2, 0, 0)), (39, (3, 22, 0, 43, 0)), (42, (1, 0, 3, 0, 0)), (43, (1, 5, 0, 1, 0)), (44, (1, 3, 0, 0, 0)), (45, (1, 18, 0, 0, 0)), (46, (3, 38, 0, 11, 4))], [(49, (1, 0, 1, 0, 0)), (50, (1, 9, 0, 0, 0)), (51, (3, 41, 0, 11, 4)), (54, (1, 3, 0, 0, 0)), (55, (3, 55, 0, 189, 1)), (58, (1, 3, 0, 0, 0)), (59, (1, 2, 0, 1, 0)), (60, (1, 0, 0, 0, 0)), (61, (3, 55, 0, 186, 3))], [(64, (3, 22, 0, 4, 0)), (67, (1, 65, 0, 0, 0))]]
abbrev m_R_readProduct : Nat := 189
def t_R_readProduct : List (List (Nat × pE)) := [[(0, (1, 3, 0, 0, 0)), (1, (3, 55, 0, 193, 1)), (4, (1, 3, 0, 0, 0)), (5, (3, 55, 1, 165, 1)), (8, (3, 29, 0, 90, 0)), (11, (1, 3, 0, 0, 0)), (12, (3, 55, 1, 167, 1)), (15, (2, 0, 42, 0, 0))], [(17, (3, 23, 0, 38, 0)), (20, (1, 3, 0, 0, 0)), (21, (3, 55, 1, 167, 1)), (24, (2, 0, 47, 0, 0)), (26, (3, 23, 0, 38, 0)), (29, (1, 3, 0, 0, 0)), (30, (3, 55, 1, 167, 1))], [(33, (2, 0, 37, 0, 0)), (35, (3, 24, 0, 90, 0)), (38, (1, 3, 0, 0, 0)), (39, (3, 55, 1, 167, 1)), (42, (2, 0, 42, 0, 0)), (44, (3, 24, 0, 51, 0)), (47, (1, 0, 4, 0, 0))], [(48, (3, 22, 0, 66, 0)), (51, (1, 3, 0, 0, 0)), (52, (3, 55, 1, 167, 1)), (55, (2, 0, 47, 0, 0)), (57, (3, 24, 0, 64, 0)), (60, (1, 0, 5, 0, 0)), (61, (3, 22, 0, 66, 0))], [(64, (2, 0, 8, 0, 0)), (66, (1, 5, 0, 1, 0)), (67, (1, 3, 0, 0, 0)), (68, (1, 18, 0, 0, 0)), (69, (3, 38, 0, 11, 4)), (72, (1, 0, 1, 0, 0)), (73, (1, 9, 0, 0, 0)), (74, (3, 41, 0, 11, 4)), (77, (1, 3, 0, 0, 0)), (78, (3, 55, 0, 193, 1))], [(81, (1, 3, 0, 0, 0)), (82, (1, 2, 0, 1, 0)), (83, (1, 0, 0, 0, 0)), (84, (3, 55, 0, 186, 3)), (87, (3, 22, 0, 4, 0)), (90, (1, 65, 0, 0, 0))]]
abbrev m_R_readTwo : Nat := 190
def t_R_readTwo : List (List (Nat × pE)) := [[(0, (1, 3, 0, 0, 0)), (1, (1, 2, 0, 1, 0)), (2, (3, 55, 0, 187, 2)), (5, (1, 3, 0, 0, 0)), (6, (2, 0, 91, 0, 0)), (8, (3, 55, 0, 174, 2)), (11, (1, 3, 0, 0, 0)), (12, (3, 55, 0, 188, 1)), (15, (1, 3, 0, 0, 0))], [(16, (2, 0, 44, 0, 0)), (18, (3, 55, 0, 174, 2)), (21, (1, 3, 0, 0, 0)), (22, (3, 55, 0, 188, 1)), (25, (1, 3, 0, 0, 0)), (26, (2, 0, 93, 0, 0)), (28, (3, 55, 0, 174, 2)), (31, (1, 3, 0, 0, 0))], [(32, (1, 18, 0, 0, 0)), (33, (3, 38, 0, 11, 7)), (36, (1, 0, 1, 0, 0)), (37, (1, 9, 0, 0, 1)), (38, (3, 41, 0, 11, 7)), (41, (1, 3, 0, 0, 0)), (42, (1, 2, 0, 2, 0)), (43, (1, 0, 0, 0, 0)), (44, (3, 55, 0, 186, 3)), (47, (1, 65, 0, 0, 0))]]
abbrev m_R_standsHere : Nat := 191
def t_R_standsHere : List (List (Nat × pE)) := [[(0, (1, 3, 0, 0, 0)), (1, (3, 55, 1, 167, 1)), (4, (1, 20, 0, 0, 0)), (5, (1, 0, 0, 0, 0)), (6, (1, 5, 0, 2, 0)), (7, (1, 2, 0, 2, 0)), (8, (1, 3, 0, 1, 0)), (9, (3, 60, 0, 0, 0)), (12, (3, 26, 0, 55, 0)), (15, (1, 3, 0, 0, 0))], [(16, (3, 38, 0, 11, 4)), (19, (1, 2, 0, 2, 0)), (20, (1, 9, 0, 0, 0)), (21, (1, 3, 0, 0, 0)), (22, (3, 38, 0, 11, 3)), (25, (3, 26, 0, 47, 0)), (28, (1, 3, 0, 0, 0)), (29, (3, 39, 0, 11, 9))], [(32, (1, 3, 0, 0, 0)), (33, (3, 38, 0, 11, 4)), (36, (1, 2, 0, 2, 0)), (37, (1, 9, 0, 0, 0)), (38, (1, 43, 0, 0, 0)), (39, (1, 3, 0, 1, 0)), (40, (1, 2, 0, 2, 0)), (41, (3, 61, 0, 0, 0)), (44, (3, 23, 0, 49, 0)), (47, (1, 0, 0, 0, 0))], [(48, (1, 66, 0, 0, 0)), (49, (3, 8, 1, 2, 0)), (52, (3, 22, 0, 7, 0)), (55, (1, 3, 0, 0, 0)), (56, (3, 38, 0, 11, 4)), (59, (1, 3, 0, 1, 0)), (60, (3, 60, 0, 0, 0)), (63, (1, 9, 0, 0, 0))], [(64, (1, 3, 0, 0, 0)), (65, (3, 38, 0, 11, 3)), (68, (3, 26, 0, 91, 0)), (71, (1, 3, 0, 0, 0)), (72, (3, 39, 0, 11, 9)), (75, (1, 3, 0, 0, 0)), (76, (3, 38, 0, 11, 4)), (79, (1, 3, 0, 1, 0))], [(80, (3, 60, 0, 0, 0)), (83, (1, 9, 0, 0, 0)), (84, (1, 43, 0, 0, 0)), (85, (3, 56, 1, 168, 1)), (88, (3, 30, 0, 95, 0)), (91, (1, 0, 1, 0, 0)), (92, (3, 22, 0, 96, 0)), (95, (1, 0, 0, 0, 0))], [(96, (1, 66, 0, 0, 0))]]
abbrev m_R_factHere : Nat := 192
def t_R_factHere : List (List (Nat × pE)) := [[(0, (1, 3, 0, 0, 0)), (1, (3, 55, 1, 170, 1)), (4, (1, 5, 0, 1, 0)), (5, (1, 2, 0, 1, 0)), (6, (3, 67, 0, 28, 0)), (9, (3, 56, 1, 171, 1)), (12, (3, 24, 0, 19, 0)), (15, (1, 0, 0, 0, 0))], [(16, (3, 22, 0, 118, 0)), (19, (1, 2, 0, 1, 0)), (20, (3, 67, 0, 29, 0)), (23, (3, 56, 1, 171, 1)), (26, (3, 24, 0, 33, 0)), (29, (1, 0, 1, 0, 0)), (30, (3, 22, 0, 118, 0))], [(33, (1, 2, 0, 1, 0)), (34, (3, 67, 0, 30, 0)), (37, (3, 56, 1, 171, 1)), (40, (3, 24, 0, 47, 0)), (43, (1, 0, 2, 0, 0)), (44, (3, 22, 0, 118, 0)), (47, (1, 2, 0, 1, 0))], [(48, (3, 67, 0, 31, 0)), (51, (3, 56, 1, 171, 1)), (54, (3, 24, 0, 61, 0)), (57, (1, 0, 3, 0, 0)), (58, (3, 22, 0, 118, 0)), (61, (1, 2, 0, 1, 0)), (62, (2, 67, 0, 22, 0))], [(64, (3, 56, 1, 171, 1)), (67, (3, 24, 0, 74, 0)), (70, (1, 0, 4, 0, 0)), (71, (3, 22, 0, 118, 0)), (74, (1, 2, 0, 1, 0)), (75, (2, 67, 0, 23, 0)), (77, (3, 56, 1, 171, 1))], [(80, (3, 24, 0, 87, 0)), (83, (1, 0, 5, 0, 0)), (84, (3, 22, 0, 118, 0)), (87, (1, 2, 0, 1, 0)), (88, (3, 67, 0, 32, 0)), (91, (3, 56, 1, 171, 1)), (94, (3, 24, 0, 102, 0))], [(97, (2, 0, 6, 0, 0)), (99, (3, 22, 0, 118, 0)), (102, (1, 2, 0, 1, 0)), (103, (3, 67, 0, 33, 0)), (106, (3, 56, 1, 171, 1)), (109, (3, 24, 0, 117, 0))], [(112, (2, 0, 7, 0, 0)), (114, (3, 22, 0, 118, 0)), (117, (1, 0, (-1), 0, 0)), (118, (1, 62, 0, 0, 0))]]
abbrev m_R_readUnit : Nat := 193
def t_R_readUnit : List (List (Nat × pE)) := [[(0, (1, 3, 0, 0, 0)), (1, (3, 55, 1, 165, 1)), (4, (3, 30, 0, 8, 0)), (7, (1, 65, 0, 0, 0)), (8, (1, 3, 0, 0, 0)), (9, (3, 55, 1, 167, 1)), (12, (2, 0, 40, 0, 0)), (14, (3, 24, 0, 45, 0))], [(17, (1, 3, 0, 0, 0)), (18, (1, 0, 1, 0, 0)), (19, (3, 55, 0, 187, 2)), (22, (1, 3, 0, 0, 0)), (23, (3, 55, 0, 188, 1)), (26, (1, 3, 0, 0, 0)), (27, (2, 0, 41, 0, 0)), (29, (3, 55, 0, 174, 2))], [(32, (1, 3, 0, 0, 0)), (33, (1, 18, 0, 0, 0)), (34, (3, 38, 0, 11, 7)), (37, (1, 0, 1, 0, 0)), (38, (1, 9, 0, 0, 1)), (39, (3, 41, 0, 11, 7)), (42, (3, 22, 0, 154, 0)), (45, (1, 3, 0, 0, 0)), (46, (3, 55, 1, 167, 1))], [(49, (3, 56, 1, 169, 1)), (52, (3, 29, 0, 71, 0)), (55, (1, 3, 0, 0, 0)), (56, (1, 0, 0, 0, 0)), (57, (1, 3, 0, 0, 0)), (58, (1, 0, 0, 0, 0)), (59, (3, 0, 999, 0, 0)), (62, (3, 55, 1, 173, 3))], [(65, (3, 55, 0, 186, 3)), (68, (3, 22, 0, 154, 0)), (71, (1, 3, 0, 0, 0)), (72, (3, 55, 1, 170, 1)), (75, (3, 67, 0, 26, 0)), (78, (3, 56, 1, 171, 1))], [(81, (3, 24, 0, 94, 0)), (84, (1, 3, 0, 0, 0)), (85, (1, 0, 5, 0, 0)), (86, (2, 0, 6, 0, 0)), (88, (3, 55, 0, 190, 3)), (91, (3, 22, 0, 154, 0)), (94, (1, 3, 0, 0, 0)), (95, (3, 55, 1, 170, 1))], [(98, (3, 67, 0, 27, 0)), (101, (3, 56, 1, 171, 1)), (104, (3, 24, 0, 117, 0)), (107, (1, 3, 0, 0, 0)), (108, (1, 0, 4, 0, 0)), (109, (2, 0, 7, 0, 0)), (111, (3, 55, 0, 190, 3))], [(114, (3, 22, 0, 154, 0)), (117, (1, 3, 0, 0, 0)), (118, (3, 55, 1, 192, 1)), (121, (1, 5, 0, 1, 0)), (122, (1, 2, 0, 1, 0)), (123, (1, 0, (-1), 0, 0)), (124, (3, 24, 0, 136, 0)), (127, (1, 3, 0, 0, 0))], [(128, (1, 0, 1, 0, 0)), (129, (1, 3, 0, 0, 0)), (130, (3, 38, 0, 11, 4)), (133, (3, 55, 0, 166, 3)), (136, (1, 3, 0, 0, 0)), (137, (3, 55, 1, 165, 1)), (140, (3, 30, 0, 144, 0)), (143, (1, 65, 0, 0, 0))], [(144, (1, 3, 0, 0, 0)), (145, (3, 55, 0, 172, 1)), (148, (1, 3, 0, 0, 0)), (149, (1, 0, 1, 0, 0)), (150, (1, 2, 0, 1, 0)), (151, (3, 55, 0, 186, 3)), (154, (1, 65, 0, 0, 0))]]
abbrev m_R_law : Nat := 194
def t_R_law : List (List (Nat × pE)) := [[(0, (1, 3, 0, 0, 0)), (1, (1, 0, 0, 0, 0)), (2, (3, 41, 0, 11, 0)), (5, (1, 3, 0, 0, 0)), (6, (1, 2, 0, 1, 0)), (7, (3, 31, 0, 29, 0)), (10, (1, 2, 0, 1, 0)), (11, (1, 3, 0, 0, 0)), (12, (3, 38, 0, 11, 2)), (15, (3, 27, 0, 29, 0))], [(18, (1, 2, 0, 1, 0)), (19, (3, 0, 150, 0, 0)), (22, (3, 27, 0, 29, 0)), (25, (1, 0, 1, 0, 0)), (26, (3, 22, 0, 30, 0)), (29, (1, 0, 0, 0, 0)), (30, (1, 0, 1, 0, 0)), (31, (1, 0, 1, 0, 0))], [(32, (3, 55, 1, 161, 4)), (35, (3, 30, 0, 40, 0)), (38, (1, 0, 0, 0, 0)), (39, (1, 62, 0, 0, 0)), (40, (1, 3, 0, 0, 0)), (41, (1, 2, 0, 1, 0)), (42, (3, 55, 0, 176, 2)), (45, (1, 3, 0, 0, 0)), (46, (1, 0, 0, 0, 0)), (47, (3, 41, 0, 11, 31))], [(50, (1, 3, 0, 0, 0)), (51, (3, 55, 0, 188, 1)), (54, (1, 3, 0, 0, 0)), (55, (3, 55, 1, 165, 1)), (58, (3, 29, 0, 77, 0)), (61, (1, 3, 0, 0, 0)), (62, (3, 55, 1, 175, 1))], [(65, (3, 29, 0, 77, 0)), (68, (1, 3, 0, 0, 0)), (69, (1, 0, 1, 0, 0)), (70, (1, 3, 0, 0, 0)), (71, (3, 38, 0, 11, 4)), (74, (3, 55, 0, 166, 3)), (77, (1, 3, 0, 0, 0)), (78, (1, 0, 1, 0, 0)), (79, (3, 55, 1, 177, 2))], [(82, (1, 5, 0, 2, 0)), (83, (1, 3, 0, 0, 0)), (84, (3, 38, 0, 11, 5)), (87, (1, 0, (-1), 0, 0)), (88, (3, 23, 0, 93, 0)), (91, (1, 2, 0, 2, 0)), (92, (1, 62, 0, 0, 0)), (93, (1, 3, 0, 0, 0)), (94, (1, 3, 0, 0, 0)), (95, (3, 38, 0, 11, 31))], [(98, (3, 41, 0, 11, 32)), (101, (1, 3, 0, 0, 0)), (102, (1, 3, 0, 0, 0)), (103, (3, 39, 0, 11, 26)), (106, (1, 3, 0, 0, 0)), (107, (3, 39, 0, 11, 28)), (110, (1, 3, 0, 0, 0)), (111, (3, 38, 0, 11, 31))], [(114, (3, 55, 0, 179, 4)), (117, (1, 3, 0, 0, 0)), (118, (1, 3, 0, 0, 0)), (119, (3, 39, 0, 11, 27)), (122, (1, 3, 0, 0, 0)), (123, (3, 39, 0, 11, 29)), (126, (1, 3, 0, 0, 0)), (127, (3, 38, 0, 11, 31))], [(130, (3, 55, 0, 179, 4)), (133, (1, 2, 0, 2, 0)), (134, (1, 62, 0, 0, 0))]]
abbrev m_R_valueNow : Nat := 195
def t_R_valueNow : List (List (Nat × pE)) := [[(0, (1, 0, 0, 0, 0)), (1, (1, 5, 0, 1, 0)), (2, (1, 0, 0, 0, 0)), (3, (1, 5, 0, 2, 0)), (4, (1, 2, 0, 2, 0)), (5, (1, 3, 0, 0, 0)), (6, (3, 38, 0, 11, 32)), (9, (3, 26, 0, 95, 0)), (12, (1, 3, 0, 0, 0)), (13, (3, 39, 0, 11, 28))], [(16, (1, 2, 0, 2, 0)), (17, (1, 43, 0, 0, 0)), (18, (1, 5, 0, 3, 0)), (19, (1, 2, 0, 3, 0)), (20, (1, 0, 1, 0, 0)), (21, (3, 27, 0, 60, 0)), (24, (1, 3, 0, 0, 0)), (25, (3, 39, 0, 11, 30)), (28, (1, 2, 0, 1, 0)), (29, (1, 2, 0, 3, 0)), (30, (3, 30, 0, 42, 0))], [(33, (1, 3, 0, 0, 0)), (34, (3, 39, 0, 11, 29)), (37, (1, 2, 0, 2, 0)), (38, (1, 43, 0, 0, 0)), (39, (3, 22, 0, 53, 0)), (42, (1, 3, 0, 0, 0)), (43, (3, 39, 0, 11, 33)), (46, (1, 3, 0, 0, 0)), (47, (3, 39, 0, 11, 29))], [(50, (1, 2, 0, 2, 0)), (51, (1, 43, 0, 0, 0)), (52, (1, 43, 0, 0, 0)), (53, (1, 44, 0, 0, 0)), (54, (3, 8, 1, 1, 0)), (57, (3, 22, 0, 89, 0)), (60, (3, 8, (-1), 1, 0)), (63, (1, 3, 0, 0, 0))], [(64, (3, 39, 0, 11, 30)), (67, (1, 2, 0, 1, 0)), (68, (1, 0, 1, 0, 0)), (69, (1, 9, 0, 0, 1)), (70, (1, 2, 0, 3, 0)), (71, (1, 3, 0, 0, 0)), (72, (3, 39, 0, 11, 30)), (75, (1, 2, 0, 1, 0)), (76, (1, 0, 1, 0, 0)), (77, (1, 9, 0, 0, 1)), (78, (1, 43, 0, 0, 0)), (79, (1, 3, 0, 0, 0))], [(80, (3, 39, 0, 11, 30)), (83, (1, 2, 0, 1, 0)), (84, (1, 43, 0, 0, 0)), (85, (3, 56, 1, 196, 3)), (88, (1, 44, 0, 0, 0)), (89, (3, 8, 1, 2, 0)), (92, (3, 22, 0, 4, 0)), (95, (1, 3, 0, 0, 0))], [(96, (3, 39, 0, 11, 30)), (99, (1, 0, 0, 0, 0)), (100, (1, 43, 0, 0, 0)), (101, (1, 62, 0, 0, 0))]]
abbrev m_R_both : Nat := 196
def t_R_both : List (List (Nat × pE)) := [[(0, (1, 2, 0, 0, 0)), (1, (1, 0, 2, 0, 0)), (2, (3, 24, 0, 9, 0)), (5, (1, 2, 0, 1, 0)), (6, (1, 2, 0, 2, 0)), (7, (1, 9, 0, 0, 0)), (8, (1, 62, 0, 0, 0)), (9, (1, 2, 0, 0, 0)), (10, (1, 0, 3, 0, 0)), (11, (3, 24, 0, 18, 0)), (14, (1, 2, 0, 1, 0)), (15, (1, 2, 0, 2, 0))], [(16, (1, 9, 0, 0, 1)), (17, (1, 62, 0, 0, 0)), (18, (1, 2, 0, 0, 0)), (19, (1, 0, 4, 0, 0)), (20, (3, 24, 0, 27, 0)), (23, (1, 2, 0, 1, 0)), (24, (1, 2, 0, 2, 0)), (25, (1, 9, 0, 0, 2)), (26, (1, 62, 0, 0, 0)), (27, (1, 2, 0, 0, 0)), (28, (1, 0, 5, 0, 0)), (29, (3, 23, 0, 38, 0))], [(32, (1, 2, 0, 0, 0)), (33, (2, 0, 8, 0, 0)), (35, (3, 24, 0, 61, 0)), (38, (1, 2, 0, 2, 0)), (39, (3, 30, 0, 46, 0)), (42, (1, 0, 0, 0, 0)), (43, (3, 22, 0, 60, 0)), (46, (1, 2, 0, 0, 0)), (47, (1, 0, 5, 0, 0))], [(48, (3, 24, 0, 57, 0)), (51, (1, 2, 0, 1, 0)), (52, (1, 2, 0, 2, 0)), (53, (1, 10, 0, 0, 0)), (54, (3, 22, 0, 60, 0)), (57, (1, 2, 0, 1, 0)), (58, (1, 2, 0, 2, 0)), (59, (1, 11, 0, 0, 0)), (60, (1, 62, 0, 0, 0)), (61, (1, 2, 0, 1, 0)), (62, (1, 2, 0, 2, 0)), (63, (3, 26, 0, 70, 0))], [(66, (1, 0, 1, 0, 0)), (67, (3, 22, 0, 71, 0)), (70, (1, 0, 0, 0, 0)), (71, (1, 2, 0, 0, 0)), (72, (2, 0, 6, 0, 0)), (74, (3, 24, 0, 81, 0)), (77, (1, 0, 1, 0, 0)), (78, (3, 22, 0, 82, 0))], [(81, (1, 0, 0, 0, 0)), (82, (3, 24, 0, 89, 0)), (85, (1, 2, 0, 1, 0)), (86, (3, 22, 0, 90, 0)), (89, (1, 2, 0, 2, 0)), (90, (1, 62, 0, 0, 0))]]
abbrev m_R_markNow : Nat := 197
def t_R_markNow : List (List (Nat × pE)) := [[(0, (1, 3, 0, 0, 0)), (1, (3, 38, 0, 11, 32)), (4, (3, 30, 0, 23, 0)), (7, (1, 3, 0, 0, 0)), (8, (3, 39, 0, 11, 33)), (11, (1, 0, 0, 0, 0)), (12, (1, 43, 0, 0, 0)), (13, (1, 3, 0, 0, 0)), (14, (3, 39, 0, 11, 33))], [(17, (1, 0, 1, 0, 0)), (18, (1, 43, 0, 0, 0)), (19, (1, 9, 0, 0, 2)), (20, (3, 22, 0, 27, 0)), (23, (1, 3, 0, 0, 0)), (24, (3, 55, 1, 195, 1)), (27, (1, 5, 0, 1, 0)), (28, (1, 2, 0, 1, 0)), (29, (3, 32, 0, 36, 0))], [(32, (1, 0, 0, 0, 0)), (33, (3, 22, 0, 48, 0)), (36, (1, 2, 0, 1, 0)), (37, (2, 0, 99, 0, 0)), (39, (3, 28, 0, 47, 0)), (42, (2, 0, 99, 0, 0)), (44, (3, 22, 0, 48, 0)), (47, (1, 2, 0, 1, 0))], [(48, (1, 62, 0, 0, 0))]]
abbrev m_R_tellsStep : Nat := 198
def t_R_tellsStep : List (List (Nat × pE)) := [[(0, (1, 3, 0, 0, 0)), (1, (3, 55, 1, 165, 1)), (4, (3, 30, 0, 8, 0)), (7, (1, 65, 0, 0, 0)), (8, (1, 3, 0, 0, 0)), (9, (3, 39, 0, 11, 34)), (12, (1, 3, 0, 0, 0)), (13, (3, 38, 0, 11, 36))], [(16, (1, 2, 0, 1, 0)), (17, (1, 44, 0, 0, 0)), (18, (1, 3, 0, 0, 0)), (19, (3, 39, 0, 11, 34)), (22, (1, 3, 0, 0, 0)), (23, (3, 38, 0, 11, 36)), (26, (1, 0, 1, 0, 0)), (27, (1, 9, 0, 0, 0)), (28, (1, 2, 0, 2, 0)), (29, (1, 44, 0, 0, 0)), (30, (1, 3, 0, 0, 0)), (31, (3, 39, 0, 11, 34))], [(34, (1, 3, 0, 0, 0)), (35, (3, 38, 0, 11, 36)), (38, (1, 0, 2, 0, 0)), (39, (1, 9, 0, 0, 0)), (40, (1, 2, 0, 3, 0)), (41, (1, 44, 0, 0, 0)), (42, (1, 3, 0, 0, 0)), (43, (1, 18, 0, 0, 0)), (44, (3, 38, 0, 11, 36)), (47, (1, 0, 3, 0, 0))], [(48, (1, 9, 0, 0, 0)), (49, (3, 41, 0, 11, 36)), (52, (1, 65, 0, 0, 0))]]
abbrev m_R_readStep : Nat := 199
def t_R_readStep : List (List (Nat × pE)) := [[(0, (1, 3, 0, 0, 0)), (1, (3, 55, 1, 170, 1)), (4, (1, 5, 0, 1, 0)), (5, (1, 3, 0, 0, 0)), (6, (3, 67, 0, 34, 0)), (9, (3, 55, 1, 191, 2)), (12, (3, 29, 0, 47, 0)), (15, (1, 3, 0, 0, 0))], [(16, (3, 55, 0, 172, 1)), (19, (1, 3, 0, 0, 0)), (20, (1, 0, 0, 0, 0)), (21, (1, 3, 0, 0, 0)), (22, (3, 38, 0, 11, 22)), (25, (1, 0, 1, 0, 0)), (26, (1, 9, 0, 0, 1)), (27, (3, 55, 1, 173, 3)), (30, (1, 5, 0, 2, 0)), (31, (1, 3, 0, 0, 0))], [(32, (1, 0, 3, 0, 0)), (33, (1, 2, 0, 2, 0)), (34, (1, 3, 0, 0, 0)), (35, (1, 0, 0, 0, 0)), (36, (2, 0, 9, 0, 0)), (38, (3, 55, 1, 173, 3)), (41, (3, 55, 0, 198, 4)), (44, (3, 22, 0, 286, 0)), (47, (1, 2, 0, 1, 0))], [(48, (3, 67, 0, 33, 0)), (51, (3, 56, 1, 171, 1)), (54, (3, 24, 0, 71, 0)), (57, (1, 3, 0, 0, 0)), (58, (3, 55, 0, 172, 1)), (61, (1, 3, 0, 0, 0)), (62, (1, 0, 4, 0, 0)), (63, (1, 0, 0, 0, 0))], [(64, (1, 0, 0, 0, 0)), (65, (3, 55, 0, 198, 4)), (68, (3, 22, 0, 286, 0)), (71, (1, 2, 0, 1, 0)), (72, (3, 67, 0, 35, 0)), (75, (3, 56, 1, 171, 1)), (78, (3, 24, 0, 117, 0))], [(81, (1, 3, 0, 0, 0)), (82, (3, 55, 0, 172, 1)), (85, (1, 3, 0, 0, 0)), (86, (1, 0, 0, 0, 0)), (87, (1, 3, 0, 0, 0)), (88, (3, 38, 0, 11, 23)), (91, (1, 0, 1, 0, 0)), (92, (1, 9, 0, 0, 1)), (93, (3, 55, 1, 173, 3))], [(96, (1, 5, 0, 2, 0)), (97, (1, 3, 0, 0, 0)), (98, (1, 0, 0, 0, 0)), (99, (1, 2, 0, 2, 0)), (100, (1, 3, 0, 0, 0)), (101, (1, 0, 0, 0, 0)), (102, (1, 3, 0, 0, 0)), (103, (3, 38, 0, 11, 22)), (106, (1, 0, 1, 0, 0)), (107, (1, 9, 0, 0, 1)), (108, (3, 55, 1, 173, 3)), (111, (3, 55, 0, 198, 4))], [(114, (3, 22, 0, 286, 0)), (117, (1, 2, 0, 1, 0)), (118, (3, 67, 0, 36, 0)), (121, (3, 56, 1, 171, 1)), (124, (3, 23, 0, 137, 0)), (127, (1, 2, 0, 1, 0))], [(128, (3, 67, 0, 37, 0)), (131, (3, 56, 1, 171, 1)), (134, (3, 24, 0, 175, 0)), (137, (1, 3, 0, 0, 0)), (138, (3, 55, 0, 172, 1)), (141, (1, 3, 0, 0, 0)), (142, (1, 2, 0, 1, 0)), (143, (3, 67, 0, 36, 0))], [(146, (3, 56, 1, 171, 1)), (149, (3, 24, 0, 156, 0)), (152, (1, 0, 1, 0, 0)), (153, (3, 22, 0, 157, 0)), (156, (1, 0, 2, 0, 0)), (157, (1, 3, 0, 0, 0)), (158, (1, 0, 0, 0, 0)), (159, (1, 3, 0, 0, 0))], [(160, (3, 38, 0, 11, 23)), (163, (1, 0, 1, 0, 0)), (164, (1, 9, 0, 0, 1)), (165, (3, 55, 1, 173, 3)), (168, (1, 0, 0, 0, 0)), (169, (3, 55, 0, 198, 4)), (172, (3, 22, 0, 286, 0)), (175, (1, 2, 0, 1, 0))], [(176, (3, 67, 0, 38, 0)), (179, (3, 56, 1, 171, 1)), (182, (3, 24, 0, 277, 0)), (185, (1, 3, 0, 0, 0)), (186, (1, 0, 5, 0, 0)), (187, (3, 55, 0, 187, 2)), (190, (1, 3, 0, 0, 0)), (191, (1, 0, 0, 0, 0))], [(192, (2, 0, 60, 0, 0)), (194, (3, 55, 1, 173, 3)), (197, (1, 5, 0, 2, 0)), (198, (1, 3, 0, 0, 0)), (199, (2, 0, 91, 0, 0)), (201, (3, 55, 0, 174, 2)), (204, (1, 3, 0, 0, 0)), (205, (3, 38, 0, 11, 36))], [(208, (1, 5, 0, 3, 0)), (209, (1, 3, 0, 0, 0)), (210, (1, 0, 5, 0, 0)), (211, (1, 2, 0, 2, 0)), (212, (1, 0, 0, 0, 0)), (213, (3, 55, 0, 198, 4)), (216, (1, 3, 0, 0, 0)), (217, (3, 55, 1, 165, 1)), (220, (3, 29, 0, 239, 0)), (223, (1, 3, 0, 0, 0))], [(224, (3, 55, 1, 167, 1)), (227, (2, 0, 93, 0, 0)), (229, (3, 23, 0, 239, 0)), (232, (1, 3, 0, 0, 0)), (233, (3, 55, 0, 199, 1)), (236, (3, 22, 0, 216, 0)), (239, (1, 3, 0, 0, 0))], [(240, (2, 0, 93, 0, 0)), (242, (3, 55, 0, 174, 2)), (245, (1, 3, 0, 0, 0)), (246, (1, 18, 0, 0, 0)), (247, (3, 38, 0, 11, 7)), (250, (1, 0, 1, 0, 0)), (251, (1, 9, 0, 0, 1)), (252, (3, 41, 0, 11, 7)), (255, (1, 3, 0, 0, 0))], [(256, (3, 55, 1, 165, 1)), (259, (3, 29, 0, 274, 0)), (262, (1, 3, 0, 0, 0)), (263, (3, 39, 0, 11, 34)), (266, (1, 2, 0, 3, 0)), (267, (1, 0, 2, 0, 0)), (268, (1, 9, 0, 0, 0)), (269, (1, 3, 0, 0, 0)), (270, (3, 38, 0, 11, 36))], [(273, (1, 44, 0, 0, 0)), (274, (3, 22, 0, 286, 0)), (277, (1, 3, 0, 0, 0)), (278, (1, 0, 1, 0, 0)), (279, (1, 3, 0, 0, 0)), (280, (3, 38, 0, 11, 4)), (283, (3, 55, 0, 166, 3)), (286, (1, 3, 0, 0, 0)), (287, (2, 0, 59, 0, 0))], [(289, (3, 55, 0, 174, 2)), (292, (1, 65, 0, 0, 0))]]
abbrev m_R_work : Nat := 200
def t_R_work : List (List (Nat × pE)) := [[(0, (1, 3, 0, 0, 0)), (1, (1, 0, 0, 0, 0)), (2, (3, 41, 0, 11, 0)), (5, (1, 3, 0, 0, 0)), (6, (1, 2, 0, 1, 0)), (7, (3, 31, 0, 29, 0)), (10, (1, 2, 0, 1, 0)), (11, (1, 3, 0, 0, 0)), (12, (3, 38, 0, 11, 2)), (15, (3, 27, 0, 29, 0))], [(18, (1, 2, 0, 1, 0)), (19, (3, 0, 150, 0, 0)), (22, (3, 27, 0, 29, 0)), (25, (1, 0, 1, 0, 0)), (26, (3, 22, 0, 30, 0)), (29, (1, 0, 0, 0, 0)), (30, (1, 0, 1, 0, 0)), (31, (1, 0, 1, 0, 0))], [(32, (3, 55, 1, 161, 4)), (35, (3, 30, 0, 40, 0)), (38, (1, 0, 0, 0, 0)), (39, (1, 62, 0, 0, 0)), (40, (1, 3, 0, 0, 0)), (41, (1, 2, 0, 1, 0)), (42, (3, 55, 0, 176, 2)), (45, (1, 3, 0, 0, 0)), (46, (3, 38, 0, 11, 37))], [(49, (2, 0, 16, 0, 0)), (51, (3, 24, 0, 63, 0)), (54, (1, 3, 0, 0, 0)), (55, (1, 0, 0, 0, 0)), (56, (3, 55, 1, 177, 2)), (59, (1, 20, 0, 0, 0)), (60, (2, 0, (-20), 0, 0)), (62, (1, 62, 0, 0, 0)), (63, (1, 3, 0, 0, 0))], [(64, (1, 0, 0, 0, 0)), (65, (3, 41, 0, 11, 36)), (68, (1, 3, 0, 0, 0)), (69, (3, 55, 1, 165, 1)), (72, (3, 29, 0, 89, 0)), (75, (1, 3, 0, 0, 0)), (76, (3, 55, 1, 175, 1)), (79, (3, 29, 0, 89, 0))], [(82, (1, 3, 0, 0, 0)), (83, (3, 55, 0, 199, 1)), (86, (3, 22, 0, 68, 0)), (89, (1, 3, 0, 0, 0)), (90, (1, 0, 0, 0, 0)), (91, (3, 55, 1, 177, 2)), (94, (1, 5, 0, 2, 0)), (95, (1, 3, 0, 0, 0))], [(96, (3, 38, 0, 11, 5)), (99, (1, 0, (-1), 0, 0)), (100, (3, 23, 0, 105, 0)), (103, (1, 2, 0, 2, 0)), (104, (1, 62, 0, 0, 0)), (105, (1, 3, 0, 0, 0)), (106, (1, 3, 0, 0, 0)), (107, (3, 39, 0, 11, 34)), (110, (1, 3, 0, 0, 0)), (111, (3, 39, 0, 11, 35))], [(114, (1, 3, 0, 0, 0)), (115, (3, 38, 0, 11, 36)), (118, (3, 55, 0, 179, 4)), (121, (1, 0, 0, 0, 0)), (122, (1, 5, 0, 3, 0)), (123, (1, 2, 0, 3, 0)), (124, (2, 0, 76, 0, 0)), (126, (3, 26, 0, 155, 0))], [(129, (1, 3, 0, 0, 0)), (130, (3, 39, 0, 11, 44)), (133, (2, 0, 76, 0, 0)), (135, (1, 3, 0, 0, 0)), (136, (3, 38, 0, 11, 37)), (139, (1, 9, 0, 0, 2)), (140, (1, 2, 0, 3, 0)), (141, (1, 9, 0, 0, 0)), (142, (1, 3, 0, 0, 0)), (143, (3, 39, 0, 11, 42))], [(146, (1, 2, 0, 3, 0)), (147, (1, 43, 0, 0, 0)), (148, (1, 44, 0, 0, 0)), (149, (3, 8, 1, 3, 0)), (152, (3, 22, 0, 123, 0)), (155, (1, 3, 0, 0, 0)), (156, (1, 18, 0, 0, 0)), (157, (3, 38, 0, 11, 37))], [(160, (1, 0, 1, 0, 0)), (161, (1, 9, 0, 0, 0)), (162, (3, 41, 0, 11, 37)), (165, (1, 3, 0, 0, 0)), (166, (3, 55, 0, 202, 1)), (169, (1, 3, 0, 0, 0)), (170, (1, 0, 0, 0, 0)), (171, (3, 41, 0, 11, 39)), (174, (1, 3, 0, 0, 0)), (175, (1, 0, 0, 0, 0))], [(176, (3, 41, 0, 11, 40)), (179, (1, 3, 0, 0, 0)), (180, (1, 0, 0, 0, 0)), (181, (3, 41, 0, 11, 41)), (184, (1, 3, 0, 0, 0)), (185, (1, 0, 0, 0, 0)), (186, (1, 3, 0, 0, 0)), (187, (3, 38, 0, 11, 36)), (190, (3, 55, 0, 201, 3))], [(193, (1, 3, 0, 0, 0)), (194, (1, 3, 0, 0, 0)), (195, (3, 39, 0, 11, 43)), (198, (1, 3, 0, 0, 0)), (199, (3, 39, 0, 11, 42)), (202, (2, 0, 76, 0, 0)), (204, (3, 55, 0, 179, 4)), (207, (1, 3, 0, 0, 0))], [(208, (1, 3, 0, 0, 0)), (209, (3, 38, 0, 11, 41)), (212, (3, 41, 0, 11, 38)), (215, (1, 3, 0, 0, 0)), (216, (3, 38, 0, 11, 40)), (219, (1, 62, 0, 0, 0))]]
abbrev m_R_goesSteps : Nat := 201
def t_R_goesSteps : List (List (Nat × pE)) := [[(0, (1, 2, 0, 1, 0)), (1, (1, 5, 0, 3, 0)), (2, (1, 2, 0, 3, 0)), (3, (1, 2, 0, 2, 0)), (4, (3, 26, 0, 152, 0)), (7, (1, 3, 0, 0, 0)), (8, (3, 38, 0, 11, 39)), (11, (3, 0, 200, 0, 0)), (14, (3, 26, 0, 152, 0))], [(17, (1, 3, 0, 0, 0)), (18, (1, 18, 0, 0, 0)), (19, (3, 38, 0, 11, 39)), (22, (1, 0, 1, 0, 0)), (23, (1, 9, 0, 0, 0)), (24, (3, 41, 0, 11, 39)), (27, (1, 3, 0, 0, 0)), (28, (3, 39, 0, 11, 35)), (31, (1, 2, 0, 3, 0))], [(32, (1, 43, 0, 0, 0)), (33, (1, 0, 5, 0, 0)), (34, (3, 24, 0, 94, 0)), (37, (1, 3, 0, 0, 0)), (38, (3, 39, 0, 11, 35)), (41, (1, 2, 0, 3, 0)), (42, (1, 0, 2, 0, 0)), (43, (1, 9, 0, 0, 0)), (44, (1, 43, 0, 0, 0)), (45, (2, 5, 0, 4, 0)), (47, (1, 0, 0, 0, 0))], [(48, (2, 5, 0, 5, 0)), (50, (2, 2, 0, 5, 0)), (52, (1, 3, 0, 0, 0)), (53, (3, 39, 0, 11, 35)), (56, (1, 2, 0, 3, 0)), (57, (1, 0, 1, 0, 0)), (58, (1, 9, 0, 0, 0)), (59, (1, 43, 0, 0, 0)), (60, (3, 26, 0, 88, 0)), (63, (1, 3, 0, 0, 0))], [(64, (3, 38, 0, 11, 39)), (67, (3, 0, 200, 0, 0)), (70, (3, 26, 0, 88, 0)), (73, (1, 3, 0, 0, 0)), (74, (1, 2, 0, 3, 0)), (75, (1, 0, 3, 0, 0)), (76, (1, 9, 0, 0, 0)), (77, (2, 2, 0, 4, 0)), (79, (3, 55, 0, 201, 3))], [(82, (3, 8, 1, 5, 0)), (85, (3, 22, 0, 50, 0)), (88, (2, 2, 0, 4, 0)), (90, (1, 5, 0, 3, 0)), (91, (3, 22, 0, 2, 0)), (94, (1, 3, 0, 0, 0)), (95, (1, 3, 0, 0, 0))], [(96, (3, 39, 0, 11, 35)), (99, (1, 2, 0, 3, 0)), (100, (1, 43, 0, 0, 0)), (101, (1, 3, 0, 0, 0)), (102, (3, 39, 0, 11, 35)), (105, (1, 2, 0, 3, 0)), (106, (1, 0, 1, 0, 0)), (107, (1, 9, 0, 0, 0)), (108, (1, 43, 0, 0, 0)), (109, (1, 3, 0, 0, 0)), (110, (3, 39, 0, 11, 35))], [(113, (1, 2, 0, 3, 0)), (114, (1, 0, 2, 0, 0)), (115, (1, 9, 0, 0, 0)), (116, (1, 43, 0, 0, 0)), (117, (3, 55, 1, 211, 4)), (120, (3, 29, 0, 136, 0)), (123, (1, 3, 0, 0, 0)), (124, (1, 18, 0, 0, 0)), (125, (3, 38, 0, 11, 40))], [(128, (1, 0, 1, 0, 0)), (129, (1, 9, 0, 0, 0)), (130, (3, 41, 0, 11, 40)), (133, (3, 22, 0, 146, 0)), (136, (1, 3, 0, 0, 0)), (137, (1, 18, 0, 0, 0)), (138, (3, 38, 0, 11, 41)), (141, (1, 0, 1, 0, 0)), (142, (1, 9, 0, 0, 0)), (143, (3, 41, 0, 11, 41))], [(146, (3, 8, 3, 3, 0)), (149, (3, 22, 0, 2, 0)), (152, (1, 65, 0, 0, 0))]]
abbrev m_R_take : Nat := 202
def t_R_take : List (List (Nat × pE)) := [[(0, (1, 3, 0, 0, 0)), (1, (1, 3, 0, 0, 0)), (2, (3, 39, 0, 11, 42)), (5, (1, 3, 0, 0, 0)), (6, (3, 39, 0, 11, 43)), (9, (2, 0, 76, 0, 0)), (11, (3, 55, 0, 179, 4)), (14, (1, 65, 0, 0, 0))]]
abbrev m_R_markOf : Nat := 203
def t_R_markOf : List (List (Nat × pE)) := [[(0, (1, 3, 0, 0, 0)), (1, (3, 39, 0, 11, 33)), (4, (1, 0, 0, 0, 0)), (5, (1, 2, 0, 1, 0)), (6, (1, 44, 0, 0, 0)), (7, (1, 3, 0, 0, 0)), (8, (3, 39, 0, 11, 33)), (11, (1, 0, 1, 0, 0)), (12, (1, 2, 0, 2, 0)), (13, (1, 44, 0, 0, 0)), (14, (1, 3, 0, 0, 0)), (15, (3, 39, 0, 11, 33))], [(18, (1, 0, 2, 0, 0)), (19, (1, 2, 0, 3, 0)), (20, (1, 44, 0, 0, 0)), (21, (1, 3, 0, 0, 0)), (22, (3, 39, 0, 11, 33)), (25, (1, 0, 3, 0, 0)), (26, (2, 2, 0, 4, 0)), (28, (1, 44, 0, 0, 0)), (29, (1, 3, 0, 0, 0)), (30, (3, 39, 0, 11, 33))], [(33, (1, 0, 4, 0, 0)), (34, (2, 2, 0, 5, 0)), (36, (1, 44, 0, 0, 0)), (37, (1, 3, 0, 0, 0)), (38, (3, 39, 0, 11, 33)), (41, (1, 0, 5, 0, 0)), (42, (2, 2, 0, 6, 0)), (44, (1, 44, 0, 0, 0)), (45, (1, 3, 0, 0, 0)), (46, (3, 39, 0, 11, 33))], [(49, (2, 0, 6, 0, 0)), (51, (2, 2, 0, 7, 0)), (53, (1, 44, 0, 0, 0)), (54, (1, 3, 0, 0, 0)), (55, (3, 39, 0, 11, 33)), (58, (2, 0, 7, 0, 0)), (60, (2, 2, 0, 8, 0)), (62, (1, 44, 0, 0, 0)), (63, (1, 3, 0, 0, 0))], [(64, (3, 55, 1, 197, 1)), (67, (1, 62, 0, 0, 0))]]
abbrev m_R_sitsAll : Nat := 204
def t_R_sitsAll : List (List (Nat × pE)) := [[(0, (1, 0, 0, 0, 0)), (1, (1, 5, 0, 1, 0)), (2, (1, 0, 0, 0, 0)), (3, (1, 5, 0, 2, 0)), (4, (1, 2, 0, 2, 0)), (5, (1, 3, 0, 0, 0)), (6, (3, 38, 0, 11, 23)), (9, (3, 26, 0, 41, 0)), (12, (1, 2, 0, 1, 0)), (13, (1, 3, 0, 0, 0)), (14, (3, 39, 0, 11, 43))], [(17, (2, 0, 8, 0, 0)), (19, (1, 2, 0, 2, 0)), (20, (1, 9, 0, 0, 0)), (21, (1, 43, 0, 0, 0)), (22, (1, 0, (-1), 0, 0)), (23, (3, 24, 0, 30, 0)), (26, (1, 0, 0, 0, 0)), (27, (3, 22, 0, 33, 0)), (30, (1, 0, 1, 0, 0)), (31, (1, 2, 0, 2, 0))], [(32, (1, 9, 0, 0, 3)), (33, (1, 9, 0, 0, 7)), (34, (1, 5, 0, 1, 0)), (35, (3, 8, 1, 2, 0)), (38, (3, 22, 0, 4, 0)), (41, (1, 2, 0, 1, 0)), (42, (1, 62, 0, 0, 0))]]
abbrev m_R_ones : Nat := 205
def t_R_ones : List (List (Nat × pE)) := [[(0, (1, 0, 0, 0, 0)), (1, (1, 5, 0, 1, 0)), (2, (1, 0, 0, 0, 0)), (3, (1, 5, 0, 2, 0)), (4, (1, 2, 0, 2, 0)), (5, (2, 0, 8, 0, 0)), (7, (3, 26, 0, 24, 0)), (10, (1, 2, 0, 1, 0)), (11, (1, 2, 0, 0, 0)), (12, (1, 2, 0, 2, 0)), (13, (1, 9, 0, 0, 4)), (14, (1, 0, 1, 0, 0)), (15, (1, 9, 0, 0, 6))], [(16, (1, 9, 0, 0, 0)), (17, (1, 5, 0, 1, 0)), (18, (3, 8, 1, 2, 0)), (21, (3, 22, 0, 4, 0)), (24, (1, 2, 0, 1, 0)), (25, (1, 62, 0, 0, 0))]]
abbrev m_R_markBy : Nat := 206
def t_R_markBy : List (List (Nat × pE)) := [[(0, (1, 3, 0, 0, 0)), (1, (3, 39, 0, 11, 43)), (4, (2, 0, 8, 0, 0)), (6, (1, 2, 0, 1, 0)), (7, (1, 9, 0, 0, 0)), (8, (1, 43, 0, 0, 0)), (9, (1, 5, 0, 2, 0)), (10, (1, 2, 0, 2, 0)), (11, (1, 0, (-1), 0, 0)), (12, (3, 24, 0, 19, 0)), (15, (1, 0, 0, 0, 0))], [(16, (3, 22, 0, 73, 0)), (19, (1, 3, 0, 0, 0)), (20, (1, 3, 0, 0, 0)), (21, (3, 39, 0, 11, 43)), (24, (1, 0, 0, 0, 0)), (25, (1, 2, 0, 2, 0)), (26, (1, 9, 0, 0, 0)), (27, (1, 43, 0, 0, 0)), (28, (1, 3, 0, 0, 0)), (29, (3, 39, 0, 11, 14))], [(32, (1, 2, 0, 1, 0)), (33, (1, 43, 0, 0, 0)), (34, (1, 3, 0, 0, 0)), (35, (3, 39, 0, 11, 43)), (38, (2, 0, 14, 0, 0)), (40, (1, 2, 0, 1, 0)), (41, (1, 9, 0, 0, 0)), (42, (1, 43, 0, 0, 0)), (43, (1, 3, 0, 0, 0)), (44, (3, 39, 0, 11, 43)), (47, (2, 0, 20, 0, 0))], [(49, (1, 2, 0, 1, 0)), (50, (1, 9, 0, 0, 0)), (51, (1, 43, 0, 0, 0)), (52, (1, 2, 0, 2, 0)), (53, (1, 2, 0, 1, 0)), (54, (1, 3, 0, 0, 0)), (55, (3, 55, 1, 204, 1)), (58, (3, 56, 1, 205, 1)), (61, (1, 0, 1, 0, 0)), (62, (1, 9, 0, 0, 1)), (63, (1, 3, 0, 0, 0))], [(64, (3, 39, 0, 11, 43)), (67, (2, 0, 75, 0, 0)), (69, (1, 43, 0, 0, 0)), (70, (3, 55, 1, 203, 9)), (73, (1, 62, 0, 0, 0))]]
abbrev m_R_onSeat : Nat := 207
def t_R_onSeat : List (List (Nat × pE)) := [[(0, (1, 0, 0, 0, 0)), (1, (1, 5, 0, 2, 0)), (2, (1, 2, 0, 2, 0)), (3, (1, 3, 0, 0, 0)), (4, (3, 38, 0, 11, 23)), (7, (3, 26, 0, 31, 0)), (10, (1, 3, 0, 0, 0)), (11, (3, 39, 0, 11, 43)), (14, (2, 0, 8, 0, 0))], [(16, (1, 2, 0, 2, 0)), (17, (1, 9, 0, 0, 0)), (18, (1, 43, 0, 0, 0)), (19, (1, 2, 0, 1, 0)), (20, (3, 24, 0, 25, 0)), (23, (1, 2, 0, 2, 0)), (24, (1, 62, 0, 0, 0)), (25, (3, 8, 1, 2, 0)), (28, (3, 22, 0, 2, 0)), (31, (1, 0, (-1), 0, 0))], [(32, (1, 62, 0, 0, 0))]]
abbrev m_R_rises : Nat := 208
def t_R_rises : List (List (Nat × pE)) := [[(0, (1, 3, 0, 0, 0)), (1, (3, 39, 0, 11, 43)), (4, (2, 0, 8, 0, 0)), (6, (1, 2, 0, 1, 0)), (7, (1, 9, 0, 0, 0)), (8, (1, 0, (-1), 0, 0)), (9, (1, 44, 0, 0, 0)), (10, (1, 3, 0, 0, 0)), (11, (3, 39, 0, 11, 43)), (14, (2, 0, 14, 0, 0))], [(16, (1, 2, 0, 1, 0)), (17, (1, 9, 0, 0, 0)), (18, (1, 0, 0, 0, 0)), (19, (1, 44, 0, 0, 0)), (20, (1, 65, 0, 0, 0))]]
abbrev m_R_sits : Nat := 209
def t_R_sits : List (List (Nat × pE)) := [[(0, (1, 3, 0, 0, 0)), (1, (1, 2, 0, 2, 0)), (2, (3, 55, 1, 207, 2)), (5, (1, 0, (-1), 0, 0)), (6, (3, 23, 0, 11, 0)), (9, (1, 0, 0, 0, 0)), (10, (1, 66, 0, 0, 0)), (11, (1, 3, 0, 0, 0)), (12, (3, 39, 0, 11, 43)), (15, (2, 0, 8, 0, 0))], [(17, (1, 2, 0, 1, 0)), (18, (1, 9, 0, 0, 0)), (19, (1, 2, 0, 2, 0)), (20, (1, 44, 0, 0, 0)), (21, (1, 3, 0, 0, 0)), (22, (3, 39, 0, 11, 43)), (25, (2, 0, 14, 0, 0)), (27, (1, 2, 0, 1, 0)), (28, (1, 9, 0, 0, 0)), (29, (1, 0, 0, 0, 0)), (30, (1, 44, 0, 0, 0)), (31, (1, 0, 1, 0, 0))], [(32, (1, 66, 0, 0, 0))]]
abbrev m_R_feeds : Nat := 210
def t_R_feeds : List (List (Nat × pE)) := [[(0, (1, 3, 0, 0, 0)), (1, (3, 39, 0, 11, 43)), (4, (2, 0, 20, 0, 0)), (6, (1, 2, 0, 1, 0)), (7, (1, 9, 0, 0, 0)), (8, (1, 43, 0, 0, 0)), (9, (3, 29, 0, 22, 0)), (12, (1, 3, 0, 0, 0)), (13, (3, 39, 0, 11, 43))], [(16, (2, 0, 74, 0, 0)), (18, (1, 43, 0, 0, 0)), (19, (3, 30, 0, 24, 0)), (22, (1, 0, 0, 0, 0)), (23, (1, 66, 0, 0, 0)), (24, (1, 3, 0, 0, 0)), (25, (3, 39, 0, 11, 43)), (28, (2, 0, 20, 0, 0)), (30, (1, 2, 0, 1, 0)), (31, (1, 9, 0, 0, 0))], [(32, (1, 0, 0, 0, 0)), (33, (1, 44, 0, 0, 0)), (34, (1, 3, 0, 0, 0)), (35, (3, 39, 0, 11, 43)), (38, (2, 0, 74, 0, 0)), (40, (1, 19, 0, 0, 0)), (41, (1, 43, 0, 0, 0)), (42, (1, 0, 1, 0, 0)), (43, (1, 9, 0, 0, 1)), (44, (1, 44, 0, 0, 0)), (45, (1, 0, 1, 0, 0)), (46, (1, 66, 0, 0, 0))]]
abbrev m_R_goes : Nat := 211
def t_R_goes : List (List (Nat × pE)) := [[(0, (1, 2, 0, 1, 0)), (1, (3, 30, 0, 11, 0)), (4, (1, 3, 0, 0, 0)), (5, (1, 2, 0, 2, 0)), (6, (1, 2, 0, 3, 0)), (7, (3, 55, 1, 209, 3)), (10, (1, 66, 0, 0, 0)), (11, (1, 2, 0, 1, 0)), (12, (1, 0, 2, 0, 0)), (13, (3, 24, 0, 22, 0))], [(16, (1, 3, 0, 0, 0)), (17, (1, 2, 0, 2, 0)), (18, (3, 55, 1, 210, 2)), (21, (1, 66, 0, 0, 0)), (22, (1, 2, 0, 1, 0)), (23, (1, 0, 1, 0, 0)), (24, (3, 24, 0, 49, 0)), (27, (1, 3, 0, 0, 0)), (28, (3, 39, 0, 11, 43)), (31, (2, 0, 8, 0, 0))], [(33, (1, 2, 0, 2, 0)), (34, (1, 9, 0, 0, 0)), (35, (1, 43, 0, 0, 0)), (36, (1, 0, (-1), 0, 0)), (37, (3, 24, 0, 42, 0)), (40, (1, 0, 0, 0, 0)), (41, (1, 66, 0, 0, 0)), (42, (1, 3, 0, 0, 0)), (43, (1, 2, 0, 2, 0)), (44, (3, 55, 0, 208, 2)), (47, (1, 0, 1, 0, 0))], [(48, (1, 66, 0, 0, 0)), (49, (1, 2, 0, 1, 0)), (50, (1, 0, 3, 0, 0)), (51, (3, 24, 0, 79, 0)), (54, (1, 3, 0, 0, 0)), (55, (3, 39, 0, 11, 43)), (58, (1, 0, 0, 0, 0)), (59, (1, 2, 0, 2, 0)), (60, (1, 9, 0, 0, 0)), (61, (1, 43, 0, 0, 0)), (62, (1, 2, 0, 3, 0)), (63, (3, 24, 0, 68, 0))], [(66, (1, 0, 0, 0, 0)), (67, (1, 66, 0, 0, 0)), (68, (1, 3, 0, 0, 0)), (69, (3, 39, 0, 11, 43)), (72, (1, 0, 0, 0, 0)), (73, (1, 2, 0, 2, 0)), (74, (1, 9, 0, 0, 0)), (75, (1, 2, 0, 3, 0)), (76, (1, 44, 0, 0, 0)), (77, (1, 0, 1, 0, 0)), (78, (1, 66, 0, 0, 0)), (79, (1, 3, 0, 0, 0))], [(80, (3, 39, 0, 11, 43)), (83, (2, 0, 75, 0, 0)), (85, (1, 43, 0, 0, 0)), (86, (3, 0, 800, 0, 0)), (89, (3, 24, 0, 94, 0)), (92, (1, 0, 0, 0, 0)), (93, (1, 66, 0, 0, 0)), (94, (1, 3, 0, 0, 0)), (95, (3, 55, 0, 212, 1))], [(98, (1, 0, 1, 0, 0)), (99, (1, 66, 0, 0, 0))]]
abbrev m_R_passes : Nat := 212
def t_R_passes : List (List (Nat × pE)) := [[(0, (1, 0, 0, 0, 0)), (1, (1, 5, 0, 1, 0)), (2, (1, 2, 0, 1, 0)), (3, (1, 3, 0, 0, 0)), (4, (3, 38, 0, 11, 23)), (7, (3, 26, 0, 27, 0)), (10, (1, 3, 0, 0, 0)), (11, (3, 39, 0, 11, 45)), (14, (1, 2, 0, 1, 0)), (15, (1, 3, 0, 0, 0))], [(16, (1, 2, 0, 1, 0)), (17, (3, 55, 1, 206, 2)), (20, (1, 44, 0, 0, 0)), (21, (3, 8, 1, 1, 0)), (24, (3, 22, 0, 2, 0)), (27, (1, 0, 0, 0, 0)), (28, (1, 5, 0, 1, 0)), (29, (1, 2, 0, 1, 0)), (30, (1, 3, 0, 0, 0)), (31, (3, 38, 0, 11, 23))], [(34, (3, 26, 0, 190, 0)), (37, (1, 3, 0, 0, 0)), (38, (3, 39, 0, 11, 43)), (41, (2, 0, 8, 0, 0)), (43, (1, 2, 0, 1, 0)), (44, (1, 9, 0, 0, 0)), (45, (1, 43, 0, 0, 0)), (46, (1, 5, 0, 2, 0)), (47, (1, 3, 0, 0, 0))], [(48, (3, 39, 0, 11, 43)), (51, (2, 0, 20, 0, 0)), (53, (1, 2, 0, 1, 0)), (54, (1, 9, 0, 0, 0)), (55, (1, 3, 0, 0, 0)), (56, (3, 39, 0, 11, 43)), (59, (2, 0, 20, 0, 0)), (61, (1, 2, 0, 1, 0)), (62, (1, 9, 0, 0, 0)), (63, (1, 43, 0, 0, 0))], [(64, (2, 0, 99, 0, 0)), (66, (3, 24, 0, 74, 0)), (69, (2, 0, 99, 0, 0)), (71, (3, 22, 0, 85, 0)), (74, (1, 3, 0, 0, 0)), (75, (3, 39, 0, 11, 43)), (78, (2, 0, 20, 0, 0))], [(80, (1, 2, 0, 1, 0)), (81, (1, 9, 0, 0, 0)), (82, (1, 43, 0, 0, 0)), (83, (1, 0, 1, 0, 0)), (84, (1, 9, 0, 0, 0)), (85, (1, 44, 0, 0, 0)), (86, (1, 2, 0, 2, 0)), (87, (1, 0, (-1), 0, 0)), (88, (3, 24, 0, 94, 0)), (91, (3, 22, 0, 184, 0)), (94, (2, 0, 26, 0, 0))], [(96, (2, 0, 6, 0, 0)), (98, (1, 2, 0, 2, 0)), (99, (1, 9, 0, 0, 2)), (100, (1, 9, 0, 0, 0)), (101, (1, 2, 0, 1, 0)), (102, (1, 9, 0, 0, 0)), (103, (1, 5, 0, 3, 0)), (104, (1, 3, 0, 0, 0)), (105, (3, 39, 0, 11, 43)), (108, (1, 2, 0, 3, 0)), (109, (1, 3, 0, 0, 0)), (110, (3, 39, 0, 11, 43))], [(113, (1, 2, 0, 3, 0)), (114, (1, 43, 0, 0, 0)), (115, (1, 3, 0, 0, 0)), (116, (3, 39, 0, 11, 45)), (119, (1, 2, 0, 1, 0)), (120, (1, 43, 0, 0, 0)), (121, (1, 9, 0, 0, 0)), (122, (3, 0, 9999, 0, 0)), (125, (3, 28, 0, 134, 0))], [(128, (3, 0, 9999, 0, 0)), (131, (3, 22, 0, 147, 0)), (134, (1, 3, 0, 0, 0)), (135, (3, 39, 0, 11, 43)), (138, (1, 2, 0, 3, 0)), (139, (1, 43, 0, 0, 0)), (140, (1, 3, 0, 0, 0)), (141, (3, 39, 0, 11, 45))], [(144, (1, 2, 0, 1, 0)), (145, (1, 43, 0, 0, 0)), (146, (1, 9, 0, 0, 0)), (147, (1, 44, 0, 0, 0)), (148, (1, 3, 0, 0, 0)), (149, (3, 39, 0, 11, 43)), (152, (2, 0, 14, 0, 0)), (154, (1, 2, 0, 1, 0)), (155, (1, 9, 0, 0, 0)), (156, (1, 19, 0, 0, 0)), (157, (1, 43, 0, 0, 0)), (158, (1, 0, 1, 0, 0)), (159, (1, 9, 0, 0, 0))], [(160, (1, 44, 0, 0, 0)), (161, (1, 3, 0, 0, 0)), (162, (3, 39, 0, 11, 43)), (165, (2, 0, 20, 0, 0)), (167, (1, 2, 0, 1, 0)), (168, (1, 9, 0, 0, 0)), (169, (1, 43, 0, 0, 0)), (170, (1, 3, 0, 0, 0)), (171, (3, 39, 0, 11, 15)), (174, (1, 2, 0, 1, 0)), (175, (1, 43, 0, 0, 0))], [(176, (3, 28, 0, 184, 0)), (179, (1, 3, 0, 0, 0)), (180, (1, 2, 0, 1, 0)), (181, (3, 55, 0, 208, 2)), (184, (3, 8, 1, 1, 0)), (187, (3, 22, 0, 29, 0)), (190, (1, 3, 0, 0, 0)), (191, (3, 39, 0, 11, 43))], [(194, (2, 0, 75, 0, 0)), (196, (1, 19, 0, 0, 0)), (197, (1, 43, 0, 0, 0)), (198, (1, 0, 1, 0, 0)), (199, (1, 9, 0, 0, 0)), (200, (1, 44, 0, 0, 0)), (201, (1, 65, 0, 0, 0))]]
abbrev m_R_allOn : Nat := 213
def t_R_allOn : List (List (Nat × pE)) := [[(0, (1, 0, 0, 0, 0)), (1, (1, 5, 0, 2, 0)), (2, (1, 0, 0, 0, 0)), (3, (1, 5, 0, 3, 0)), (4, (1, 2, 0, 3, 0)), (5, (1, 3, 0, 0, 0)), (6, (3, 38, 0, 11, 23)), (9, (3, 26, 0, 35, 0)), (12, (1, 2, 0, 2, 0)), (13, (1, 3, 0, 0, 0)), (14, (3, 39, 0, 11, 43))], [(17, (2, 0, 26, 0, 0)), (19, (2, 0, 6, 0, 0)), (21, (1, 2, 0, 1, 0)), (22, (1, 9, 0, 0, 2)), (23, (1, 9, 0, 0, 0)), (24, (1, 2, 0, 3, 0)), (25, (1, 9, 0, 0, 0)), (26, (1, 43, 0, 0, 0)), (27, (1, 9, 0, 0, 0)), (28, (1, 5, 0, 2, 0)), (29, (3, 8, 1, 3, 0))], [(32, (3, 22, 0, 4, 0)), (35, (1, 2, 0, 2, 0)), (36, (1, 62, 0, 0, 0))]]
abbrev m_R_allOnPlate : Nat := 214
def t_R_allOnPlate : List (List (Nat × pE)) := [[(0, (1, 0, 0, 0, 0)), (1, (1, 5, 0, 1, 0)), (2, (1, 0, 0, 0, 0)), (3, (1, 5, 0, 2, 0)), (4, (1, 2, 0, 2, 0)), (5, (1, 3, 0, 0, 0)), (6, (3, 38, 0, 11, 22)), (9, (3, 26, 0, 26, 0)), (12, (1, 2, 0, 1, 0)), (13, (1, 3, 0, 0, 0)), (14, (1, 2, 0, 2, 0)), (15, (3, 55, 1, 213, 2))], [(18, (1, 9, 0, 0, 0)), (19, (1, 5, 0, 1, 0)), (20, (3, 8, 1, 2, 0)), (23, (3, 22, 0, 4, 0)), (26, (1, 2, 0, 1, 0)), (27, (1, 62, 0, 0, 0))]]
abbrev m_R_seenOn : Nat := 215
def t_R_seenOn : List (List (Nat × pE)) := [[(0, (1, 0, 0, 0, 0)), (1, (1, 5, 0, 2, 0)), (2, (1, 2, 0, 2, 0)), (3, (1, 3, 0, 0, 0)), (4, (3, 38, 0, 11, 23)), (7, (3, 26, 0, 42, 0)), (10, (1, 0, 2, 0, 0)), (11, (1, 3, 0, 0, 0)), (12, (3, 39, 0, 11, 43)), (15, (2, 0, 26, 0, 0))], [(17, (2, 0, 6, 0, 0)), (19, (1, 2, 0, 1, 0)), (20, (1, 9, 0, 0, 2)), (21, (1, 9, 0, 0, 0)), (22, (1, 2, 0, 2, 0)), (23, (1, 9, 0, 0, 0)), (24, (1, 43, 0, 0, 0)), (25, (1, 9, 0, 0, 2)), (26, (1, 3, 0, 0, 0)), (27, (1, 2, 0, 1, 0)), (28, (3, 55, 1, 213, 2)), (31, (3, 28, 0, 36, 0))], [(34, (1, 2, 0, 2, 0)), (35, (1, 62, 0, 0, 0)), (36, (3, 8, 1, 2, 0)), (39, (3, 22, 0, 2, 0)), (42, (1, 0, (-1), 0, 0)), (43, (1, 62, 0, 0, 0))]]
abbrev m_R_unseen : Nat := 216
def t_R_unseen : List (List (Nat × pE)) := [[(0, (1, 0, 1, 0, 0)), (1, (1, 3, 0, 0, 0)), (2, (3, 38, 0, 11, 23)), (5, (1, 9, 0, 0, 3)), (6, (1, 0, 1, 0, 0)), (7, (1, 9, 0, 0, 1)), (8, (1, 5, 0, 1, 0)), (9, (1, 0, 0, 0, 0)), (10, (1, 5, 0, 2, 0)), (11, (1, 2, 0, 2, 0)), (12, (1, 3, 0, 0, 0)), (13, (3, 38, 0, 11, 22))], [(16, (3, 26, 0, 46, 0)), (19, (1, 3, 0, 0, 0)), (20, (1, 2, 0, 2, 0)), (21, (3, 55, 1, 215, 2)), (24, (1, 0, (-1), 0, 0)), (25, (3, 23, 0, 40, 0)), (28, (1, 2, 0, 1, 0)), (29, (1, 0, 1, 0, 0)), (30, (1, 3, 0, 0, 0)), (31, (1, 2, 0, 2, 0))], [(32, (3, 55, 1, 215, 2)), (35, (1, 9, 0, 0, 3)), (36, (1, 0, (-1), 0, 0)), (37, (1, 9, 0, 0, 8)), (38, (1, 9, 0, 0, 6)), (39, (1, 5, 0, 1, 0)), (40, (3, 8, 1, 2, 0)), (43, (3, 22, 0, 11, 0)), (46, (1, 2, 0, 1, 0)), (47, (1, 62, 0, 0, 0))]]
abbrev m_R_book : Nat := 217
def t_R_book : List (List (Nat × pE)) := [[(0, (1, 3, 0, 0, 0)), (1, (1, 0, 0, 0, 0)), (2, (3, 41, 0, 11, 0)), (5, (1, 3, 0, 0, 0)), (6, (1, 2, 0, 1, 0)), (7, (3, 31, 0, 28, 0)), (10, (1, 2, 0, 1, 0)), (11, (1, 3, 0, 0, 0)), (12, (3, 38, 0, 11, 2)), (15, (3, 27, 0, 28, 0))], [(18, (1, 2, 0, 1, 0)), (19, (2, 0, 100, 0, 0)), (21, (3, 27, 0, 28, 0)), (24, (1, 0, 1, 0, 0)), (25, (3, 22, 0, 29, 0)), (28, (1, 0, 0, 0, 0)), (29, (1, 0, 1, 0, 0)), (30, (1, 0, 1, 0, 0)), (31, (3, 55, 1, 161, 4))], [(34, (3, 30, 0, 39, 0)), (37, (1, 0, 0, 0, 0)), (38, (1, 62, 0, 0, 0)), (39, (1, 3, 0, 0, 0)), (40, (1, 2, 0, 1, 0)), (41, (3, 55, 0, 176, 2)), (44, (1, 0, 0, 0, 0)), (45, (1, 5, 0, 2, 0)), (46, (1, 2, 0, 2, 0)), (47, (2, 0, 8, 0, 0))], [(49, (3, 26, 0, 65, 0)), (52, (1, 3, 0, 0, 0)), (53, (3, 39, 0, 11, 46)), (56, (1, 2, 0, 2, 0)), (57, (1, 0, (-1), 0, 0)), (58, (1, 44, 0, 0, 0)), (59, (3, 8, 1, 2, 0)), (62, (3, 22, 0, 46, 0))], [(65, (1, 0, 0, 0, 0)), (66, (1, 5, 0, 2, 0)), (67, (1, 3, 0, 0, 0)), (68, (3, 55, 1, 165, 1)), (71, (3, 29, 0, 188, 0)), (74, (1, 3, 0, 0, 0)), (75, (3, 55, 1, 175, 1)), (78, (3, 29, 0, 188, 0))], [(81, (1, 3, 0, 0, 0)), (82, (3, 55, 1, 167, 1)), (85, (1, 20, 0, 0, 0)), (86, (1, 3, 0, 0, 0)), (87, (3, 38, 0, 11, 4)), (90, (1, 5, 0, 3, 0)), (91, (1, 3, 0, 0, 0)), (92, (1, 0, 0, 0, 0)), (93, (1, 3, 0, 0, 0)), (94, (3, 38, 0, 11, 22))], [(97, (1, 0, 1, 0, 0)), (98, (1, 9, 0, 0, 1)), (99, (3, 55, 1, 173, 3)), (102, (2, 5, 0, 4, 0)), (104, (1, 3, 0, 0, 0)), (105, (3, 55, 1, 165, 1)), (108, (3, 29, 0, 128, 0)), (111, (1, 3, 0, 0, 0))], [(112, (3, 39, 0, 11, 46)), (115, (2, 2, 0, 4, 0)), (117, (1, 43, 0, 0, 0)), (118, (1, 0, (-1), 0, 0)), (119, (3, 23, 0, 128, 0)), (122, (1, 3, 0, 0, 0)), (123, (1, 0, 2, 0, 0)), (124, (1, 2, 0, 3, 0)), (125, (3, 55, 0, 166, 3))], [(128, (1, 3, 0, 0, 0)), (129, (3, 55, 1, 165, 1)), (132, (3, 29, 0, 147, 0)), (135, (1, 2, 0, 2, 0)), (136, (2, 0, 8, 0, 0)), (138, (3, 24, 0, 147, 0)), (141, (1, 3, 0, 0, 0)), (142, (1, 0, 3, 0, 0)), (143, (1, 2, 0, 3, 0))], [(144, (3, 55, 0, 166, 3)), (147, (1, 3, 0, 0, 0)), (148, (1, 0, 0, 0, 0)), (149, (3, 0, 9999, 0, 0)), (152, (3, 55, 1, 173, 3)), (155, (2, 5, 0, 5, 0)), (157, (1, 3, 0, 0, 0)), (158, (2, 0, 59, 0, 0))], [(160, (3, 55, 0, 174, 2)), (163, (1, 3, 0, 0, 0)), (164, (3, 55, 1, 165, 1)), (167, (3, 30, 0, 173, 0)), (170, (3, 22, 0, 188, 0)), (173, (1, 3, 0, 0, 0)), (174, (3, 39, 0, 11, 46))], [(177, (2, 2, 0, 4, 0)), (179, (2, 2, 0, 5, 0)), (181, (1, 44, 0, 0, 0)), (182, (3, 8, 1, 2, 0)), (185, (3, 22, 0, 67, 0)), (188, (1, 3, 0, 0, 0)), (189, (1, 2, 0, 2, 0)), (190, (3, 55, 1, 177, 2))], [(193, (1, 5, 0, 3, 0)), (194, (1, 3, 0, 0, 0)), (195, (3, 38, 0, 11, 5)), (198, (1, 0, (-1), 0, 0)), (199, (3, 23, 0, 204, 0)), (202, (1, 2, 0, 3, 0)), (203, (1, 62, 0, 0, 0)), (204, (1, 3, 0, 0, 0)), (205, (1, 2, 0, 2, 0)), (206, (3, 41, 0, 11, 48))], [(209, (1, 3, 0, 0, 0)), (210, (1, 3, 0, 0, 0)), (211, (3, 39, 0, 11, 46)), (214, (1, 3, 0, 0, 0)), (215, (3, 39, 0, 11, 47)), (218, (2, 0, 8, 0, 0)), (220, (3, 55, 0, 179, 4)), (223, (1, 2, 0, 3, 0))], [(224, (1, 62, 0, 0, 0))]]
abbrev m_R_undo : Nat := 218
def t_R_undo : List (List (Nat × pE)) := [[(0, (1, 3, 0, 0, 0)), (1, (1, 0, 0, 0, 0)), (2, (3, 41, 0, 11, 0)), (5, (1, 3, 0, 0, 0)), (6, (3, 38, 0, 11, 37)), (9, (3, 30, 0, 14, 0)), (12, (1, 0, (-1), 0, 0)), (13, (1, 62, 0, 0, 0)), (14, (1, 3, 0, 0, 0)), (15, (1, 18, 0, 0, 0))], [(16, (3, 38, 0, 11, 37)), (19, (1, 0, 1, 0, 0)), (20, (1, 9, 0, 0, 1)), (21, (3, 41, 0, 11, 37)), (24, (1, 0, 0, 0, 0)), (25, (1, 5, 0, 1, 0)), (26, (1, 2, 0, 1, 0)), (27, (2, 0, 76, 0, 0)), (29, (3, 26, 0, 58, 0))], [(32, (1, 3, 0, 0, 0)), (33, (3, 39, 0, 11, 42)), (36, (1, 2, 0, 1, 0)), (37, (1, 3, 0, 0, 0)), (38, (3, 39, 0, 11, 44)), (41, (2, 0, 76, 0, 0)), (43, (1, 3, 0, 0, 0)), (44, (3, 38, 0, 11, 37)), (47, (1, 9, 0, 0, 2))], [(48, (1, 2, 0, 1, 0)), (49, (1, 9, 0, 0, 0)), (50, (1, 43, 0, 0, 0)), (51, (1, 44, 0, 0, 0)), (52, (3, 8, 1, 1, 0)), (55, (3, 22, 0, 26, 0)), (58, (1, 3, 0, 0, 0)), (59, (1, 0, 0, 0, 0)), (60, (3, 41, 0, 11, 38)), (63, (1, 3, 0, 0, 0))], [(64, (3, 38, 0, 11, 37)), (67, (1, 62, 0, 0, 0))]]
abbrev m_R_told : Nat := 219
def t_R_told : List (List (Nat × pE)) := [[(0, (1, 3, 0, 0, 0)), (1, (1, 0, 0, 0, 0)), (2, (3, 41, 0, 11, 0)), (5, (1, 3, 0, 0, 0)), (6, (1, 2, 0, 1, 0)), (7, (1, 0, 0, 0, 0)), (8, (2, 0, 10, 0, 0)), (10, (3, 56, 1, 162, 3)), (13, (1, 0, 1, 0, 0)), (14, (1, 0, 1, 0, 0)), (15, (3, 55, 1, 161, 4))], [(18, (3, 30, 0, 23, 0)), (21, (1, 0, 0, 0, 0)), (22, (1, 62, 0, 0, 0)), (23, (1, 3, 0, 0, 0)), (24, (3, 55, 0, 202, 1)), (27, (1, 2, 0, 1, 0)), (28, (1, 0, 3, 0, 0)), (29, (3, 26, 0, 60, 0))], [(32, (1, 2, 0, 1, 0)), (33, (3, 30, 0, 43, 0)), (36, (1, 3, 0, 0, 0)), (37, (3, 38, 0, 11, 22)), (40, (3, 22, 0, 59, 0)), (43, (1, 2, 0, 1, 0)), (44, (1, 0, 1, 0, 0)), (45, (3, 24, 0, 55, 0))], [(48, (1, 3, 0, 0, 0)), (49, (3, 38, 0, 11, 23)), (52, (3, 22, 0, 59, 0)), (55, (1, 3, 0, 0, 0)), (56, (3, 38, 0, 11, 24)), (59, (1, 62, 0, 0, 0)), (60, (1, 2, 0, 1, 0)), (61, (2, 0, 6, 0, 0)), (63, (3, 26, 0, 101, 0))], [(66, (1, 2, 0, 1, 0)), (67, (1, 0, 3, 0, 0)), (68, (3, 24, 0, 81, 0)), (71, (1, 3, 0, 0, 0)), (72, (3, 39, 0, 11, 43)), (75, (2, 0, 75, 0, 0)), (77, (1, 43, 0, 0, 0)), (78, (3, 22, 0, 100, 0))], [(81, (1, 2, 0, 1, 0)), (82, (1, 0, 4, 0, 0)), (83, (3, 24, 0, 96, 0)), (86, (1, 3, 0, 0, 0)), (87, (3, 39, 0, 11, 43)), (90, (2, 0, 74, 0, 0)), (92, (1, 43, 0, 0, 0)), (93, (3, 22, 0, 100, 0))], [(96, (1, 3, 0, 0, 0)), (97, (3, 55, 1, 204, 1)), (100, (1, 62, 0, 0, 0)), (101, (1, 2, 0, 1, 0)), (102, (2, 0, 8, 0, 0)), (104, (3, 26, 0, 125, 0)), (107, (1, 2, 0, 1, 0)), (108, (2, 0, 6, 0, 0)), (110, (3, 24, 0, 120, 0))], [(113, (1, 3, 0, 0, 0)), (114, (3, 38, 0, 11, 48)), (117, (3, 22, 0, 124, 0)), (120, (1, 3, 0, 0, 0)), (121, (3, 38, 0, 11, 38)), (124, (1, 62, 0, 0, 0)), (125, (1, 2, 0, 1, 0)), (126, (2, 0, 8, 0, 0))], [(128, (3, 24, 0, 138, 0)), (131, (1, 3, 0, 0, 0)), (132, (3, 55, 1, 214, 1)), (135, (3, 22, 0, 155, 0)), (138, (1, 2, 0, 1, 0)), (139, (2, 0, 9, 0, 0)), (141, (3, 24, 0, 151, 0))], [(144, (1, 3, 0, 0, 0)), (145, (3, 55, 1, 216, 1)), (148, (3, 22, 0, 155, 0)), (151, (1, 3, 0, 0, 0)), (152, (3, 38, 0, 11, 25)), (155, (1, 62, 0, 0, 0))]]
abbrev m_R_isSeat : Nat := 220
def t_R_isSeat : List (List (Nat × pE)) := [[(0, (1, 3, 0, 0, 0)), (1, (1, 2, 0, 1, 0)), (2, (1, 0, 0, 0, 0)), (3, (1, 3, 0, 0, 0)), (4, (3, 38, 0, 11, 22)), (7, (1, 0, 1, 0, 0)), (8, (1, 9, 0, 0, 1)), (9, (3, 56, 1, 162, 3)), (12, (1, 2, 0, 2, 0)), (13, (1, 0, 0, 0, 0)), (14, (3, 55, 1, 161, 4))], [(17, (1, 66, 0, 0, 0))]]
abbrev m_R_isSitter : Nat := 221
def t_R_isSitter : List (List (Nat × pE)) := [[(0, (1, 3, 0, 0, 0)), (1, (1, 2, 0, 1, 0)), (2, (1, 0, 0, 0, 0)), (3, (1, 3, 0, 0, 0)), (4, (3, 38, 0, 11, 23)), (7, (1, 0, 1, 0, 0)), (8, (1, 9, 0, 0, 1)), (9, (3, 56, 1, 162, 3)), (12, (1, 2, 0, 2, 0)), (13, (1, 0, 0, 0, 0)), (14, (3, 55, 1, 161, 4))], [(17, (1, 66, 0, 0, 0))]]
abbrev m_R_seat : Nat := 222
def t_R_seat : List (List (Nat × pE)) := [[(0, (1, 3, 0, 0, 0)), (1, (1, 0, 0, 0, 0)), (2, (3, 41, 0, 11, 0)), (5, (1, 3, 0, 0, 0)), (6, (1, 2, 0, 1, 0)), (7, (1, 0, 1, 0, 0)), (8, (3, 55, 1, 220, 3)), (11, (3, 29, 0, 29, 0)), (14, (1, 3, 0, 0, 0)), (15, (1, 2, 0, 2, 0))], [(16, (1, 0, 0, 0, 0)), (17, (1, 0, 3, 0, 0)), (18, (3, 56, 1, 162, 3)), (21, (1, 0, 2, 0, 0)), (22, (1, 0, 1, 0, 0)), (23, (3, 55, 1, 161, 4)), (26, (3, 30, 0, 31, 0)), (29, (1, 0, 0, 0, 0)), (30, (1, 62, 0, 0, 0)), (31, (1, 3, 0, 0, 0))], [(32, (3, 55, 0, 202, 1)), (35, (1, 2, 0, 2, 0)), (36, (3, 30, 0, 50, 0)), (39, (1, 3, 0, 0, 0)), (40, (3, 39, 0, 11, 43)), (43, (1, 0, 0, 0, 0)), (44, (1, 2, 0, 1, 0)), (45, (1, 9, 0, 0, 0)), (46, (1, 43, 0, 0, 0)), (47, (3, 22, 0, 81, 0))], [(50, (1, 2, 0, 2, 0)), (51, (1, 0, 1, 0, 0)), (52, (3, 24, 0, 63, 0)), (55, (1, 3, 0, 0, 0)), (56, (1, 2, 0, 1, 0)), (57, (3, 55, 1, 207, 2)), (60, (3, 22, 0, 81, 0)), (63, (1, 2, 0, 2, 0))], [(64, (1, 0, 2, 0, 0)), (65, (3, 24, 0, 76, 0)), (68, (1, 3, 0, 0, 0)), (69, (1, 2, 0, 1, 0)), (70, (3, 55, 1, 213, 2)), (73, (3, 22, 0, 81, 0)), (76, (1, 3, 0, 0, 0)), (77, (1, 2, 0, 1, 0)), (78, (3, 55, 1, 215, 2))], [(81, (1, 62, 0, 0, 0))]]
abbrev m_R_ofHim : Nat := 223
def t_R_ofHim : List (List (Nat × pE)) := [[(0, (1, 0, 0, 0, 0)), (1, (1, 5, 0, 3, 0)), (2, (1, 0, 0, 0, 0)), (3, (2, 5, 0, 4, 0)), (5, (2, 2, 0, 4, 0)), (7, (1, 3, 0, 0, 0)), (8, (3, 38, 0, 11, 22)), (11, (3, 26, 0, 82, 0)), (14, (1, 3, 0, 0, 0)), (15, (3, 39, 0, 11, 43))], [(18, (2, 0, 26, 0, 0)), (20, (2, 0, 6, 0, 0)), (22, (2, 2, 0, 4, 0)), (24, (1, 9, 0, 0, 2)), (25, (1, 9, 0, 0, 0)), (26, (1, 2, 0, 1, 0)), (27, (1, 9, 0, 0, 0)), (28, (1, 43, 0, 0, 0)), (29, (2, 5, 0, 5, 0)), (31, (1, 2, 0, 2, 0))], [(32, (2, 0, 7, 0, 0)), (34, (3, 24, 0, 45, 0)), (37, (1, 2, 0, 3, 0)), (38, (2, 2, 0, 5, 0)), (40, (1, 9, 0, 0, 0)), (41, (1, 5, 0, 3, 0)), (42, (3, 22, 0, 76, 0)), (45, (1, 2, 0, 2, 0)), (46, (2, 0, 6, 0, 0))], [(48, (3, 24, 0, 64, 0)), (51, (1, 3, 0, 0, 0)), (52, (2, 2, 0, 4, 0)), (54, (3, 55, 1, 215, 2)), (57, (1, 2, 0, 1, 0)), (58, (3, 24, 0, 76, 0)), (61, (3, 22, 0, 69, 0))], [(64, (2, 2, 0, 5, 0)), (66, (3, 34, 0, 76, 0)), (69, (1, 2, 0, 3, 0)), (70, (1, 0, 1, 0, 0)), (71, (2, 2, 0, 4, 0)), (73, (1, 9, 0, 0, 3)), (74, (1, 9, 0, 0, 7)), (75, (1, 5, 0, 3, 0)), (76, (3, 8, 1, 4, 0)), (79, (3, 22, 0, 5, 0))], [(82, (1, 2, 0, 3, 0)), (83, (1, 62, 0, 0, 0))]]
abbrev m_R_sitter : Nat := 224
def t_R_sitter : List (List (Nat × pE)) := [[(0, (1, 3, 0, 0, 0)), (1, (1, 0, 0, 0, 0)), (2, (3, 41, 0, 11, 0)), (5, (1, 3, 0, 0, 0)), (6, (1, 2, 0, 1, 0)), (7, (1, 0, 1, 0, 0)), (8, (3, 55, 1, 221, 3)), (11, (3, 29, 0, 30, 0)), (14, (1, 3, 0, 0, 0)), (15, (1, 2, 0, 2, 0))], [(16, (1, 0, 0, 0, 0)), (17, (2, 0, 7, 0, 0)), (19, (3, 56, 1, 162, 3)), (22, (1, 0, 2, 0, 0)), (23, (1, 0, 1, 0, 0)), (24, (3, 55, 1, 161, 4)), (27, (3, 30, 0, 32, 0)), (30, (1, 0, 0, 0, 0)), (31, (1, 62, 0, 0, 0))], [(32, (1, 3, 0, 0, 0)), (33, (3, 55, 0, 202, 1)), (36, (1, 2, 0, 2, 0)), (37, (1, 0, 2, 0, 0)), (38, (3, 26, 0, 61, 0)), (41, (1, 2, 0, 2, 0)), (42, (3, 30, 0, 54, 0)), (45, (1, 3, 0, 0, 0)), (46, (3, 39, 0, 11, 14))], [(49, (1, 2, 0, 1, 0)), (50, (1, 43, 0, 0, 0)), (51, (3, 22, 0, 60, 0)), (54, (1, 3, 0, 0, 0)), (55, (3, 39, 0, 11, 15)), (58, (1, 2, 0, 1, 0)), (59, (1, 43, 0, 0, 0)), (60, (1, 62, 0, 0, 0)), (61, (1, 2, 0, 2, 0)), (62, (1, 0, 5, 0, 0)), (63, (3, 26, 0, 96, 0))], [(66, (1, 3, 0, 0, 0)), (67, (3, 39, 0, 11, 43)), (70, (1, 2, 0, 2, 0)), (71, (1, 0, 2, 0, 0)), (72, (3, 24, 0, 80, 0)), (75, (2, 0, 8, 0, 0)), (77, (3, 22, 0, 92, 0))], [(80, (1, 2, 0, 2, 0)), (81, (1, 0, 3, 0, 0)), (82, (3, 24, 0, 90, 0)), (85, (2, 0, 14, 0, 0)), (87, (3, 22, 0, 92, 0)), (90, (2, 0, 20, 0, 0)), (92, (1, 2, 0, 1, 0)), (93, (1, 9, 0, 0, 0)), (94, (1, 43, 0, 0, 0)), (95, (1, 62, 0, 0, 0))], [(96, (1, 3, 0, 0, 0)), (97, (1, 2, 0, 1, 0)), (98, (1, 2, 0, 2, 0)), (99, (3, 55, 1, 223, 3)), (102, (1, 62, 0, 0, 0))]]
abbrev m_R_plate : Nat := 225
def t_R_plate : List (List (Nat × pE)) := [[(0, (1, 3, 0, 0, 0)), (1, (1, 0, 0, 0, 0)), (2, (3, 41, 0, 11, 0)), (5, (1, 3, 0, 0, 0)), (6, (1, 2, 0, 1, 0)), (7, (1, 0, 1, 0, 0)), (8, (3, 55, 1, 220, 3)), (11, (3, 29, 0, 40, 0)), (14, (1, 3, 0, 0, 0)), (15, (1, 2, 0, 2, 0))], [(16, (1, 0, 1, 0, 0)), (17, (3, 55, 1, 221, 3)), (20, (3, 29, 0, 40, 0)), (23, (1, 3, 0, 0, 0)), (24, (3, 39, 0, 11, 42)), (27, (2, 0, 26, 0, 0)), (29, (2, 0, 6, 0, 0)), (31, (1, 2, 0, 1, 0))], [(32, (1, 9, 0, 0, 2)), (33, (1, 9, 0, 0, 0)), (34, (1, 2, 0, 2, 0)), (35, (1, 9, 0, 0, 0)), (36, (1, 43, 0, 0, 0)), (37, (3, 22, 0, 41, 0)), (40, (1, 0, 0, 0, 0)), (41, (1, 62, 0, 0, 0))]]
abbrev m_R_sitting : Nat := 226
def t_R_sitting : List (List (Nat × pE)) := [[(0, (1, 3, 0, 0, 0)), (1, (1, 0, 0, 0, 0)), (2, (3, 41, 0, 11, 0)), (5, (1, 3, 0, 0, 0)), (6, (1, 2, 0, 1, 0)), (7, (1, 0, 0, 0, 0)), (8, (1, 3, 0, 0, 0)), (9, (3, 38, 0, 11, 24)), (12, (1, 0, 1, 0, 0)), (13, (1, 9, 0, 0, 1)), (14, (3, 56, 1, 162, 3))], [(17, (1, 0, 1, 0, 0)), (18, (1, 0, 0, 0, 0)), (19, (3, 55, 1, 161, 4)), (22, (3, 29, 0, 34, 0)), (25, (1, 3, 0, 0, 0)), (26, (3, 39, 0, 11, 16)), (29, (1, 2, 0, 1, 0)), (30, (1, 43, 0, 0, 0)), (31, (3, 22, 0, 35, 0))], [(34, (1, 0, 0, 0, 0)), (35, (1, 62, 0, 0, 0))]]
abbrev m_R_mark : Nat := 227
def t_R_mark : List (List (Nat × pE)) := [[(0, (1, 3, 0, 0, 0)), (1, (1, 0, 0, 0, 0)), (2, (3, 41, 0, 11, 0)), (5, (1, 3, 0, 0, 0)), (6, (1, 2, 0, 1, 0)), (7, (1, 0, 1, 0, 0)), (8, (3, 55, 1, 221, 3)), (11, (3, 30, 0, 16, 0)), (14, (1, 0, 0, 0, 0)), (15, (1, 62, 0, 0, 0))], [(16, (1, 3, 0, 0, 0)), (17, (3, 55, 0, 202, 1)), (20, (1, 3, 0, 0, 0)), (21, (1, 2, 0, 1, 0)), (22, (3, 55, 1, 206, 2)), (25, (1, 62, 0, 0, 0))]]
abbrev m_R_would : Nat := 228
def t_R_would : List (List (Nat × pE)) := [[(0, (1, 3, 0, 0, 0)), (1, (1, 0, 0, 0, 0)), (2, (3, 41, 0, 11, 0)), (5, (1, 3, 0, 0, 0)), (6, (1, 2, 0, 1, 0)), (7, (1, 0, 0, 0, 0)), (8, (2, 0, 9, 0, 0)), (10, (3, 56, 1, 162, 3)), (13, (3, 29, 0, 95, 0))], [(16, (1, 2, 0, 2, 0)), (17, (1, 0, 1, 0, 0)), (18, (2, 0, 9, 0, 0)), (20, (3, 56, 1, 162, 3)), (23, (3, 29, 0, 95, 0)), (26, (1, 2, 0, 3, 0)), (27, (1, 0, 0, 0, 0)), (28, (3, 0, 999, 0, 0)), (31, (3, 56, 1, 162, 3))], [(34, (3, 29, 0, 95, 0)), (37, (2, 2, 0, 4, 0)), (39, (1, 0, 0, 0, 0)), (40, (2, 0, 99, 0, 0)), (42, (3, 56, 1, 162, 3)), (45, (3, 29, 0, 95, 0))], [(48, (2, 2, 0, 5, 0)), (50, (1, 0, 0, 0, 0)), (51, (2, 0, 7, 0, 0)), (53, (3, 56, 1, 162, 3)), (56, (3, 29, 0, 95, 0)), (59, (2, 2, 0, 6, 0)), (61, (1, 0, 0, 0, 0)), (62, (1, 0, 5, 0, 0)), (63, (3, 56, 1, 162, 3))], [(66, (3, 29, 0, 95, 0)), (69, (2, 2, 0, 7, 0)), (71, (1, 0, 0, 0, 0)), (72, (1, 0, 5, 0, 0)), (73, (3, 56, 1, 162, 3)), (76, (3, 29, 0, 95, 0)), (79, (2, 2, 0, 8, 0))], [(81, (1, 0, 0, 0, 0)), (82, (3, 0, 800, 0, 0)), (85, (3, 56, 1, 162, 3)), (88, (3, 29, 0, 95, 0)), (91, (1, 0, 1, 0, 0)), (92, (3, 22, 0, 96, 0)), (95, (1, 0, 0, 0, 0))], [(96, (1, 0, 1, 0, 0)), (97, (1, 0, 1, 0, 0)), (98, (3, 55, 1, 161, 4)), (101, (3, 30, 0, 106, 0)), (104, (1, 0, 0, 0, 0)), (105, (1, 62, 0, 0, 0)), (106, (1, 3, 0, 0, 0)), (107, (1, 2, 0, 1, 0)), (108, (1, 2, 0, 2, 0)), (109, (1, 2, 0, 3, 0)), (110, (2, 2, 0, 4, 0))], [(112, (2, 2, 0, 5, 0)), (114, (2, 2, 0, 6, 0)), (116, (2, 2, 0, 7, 0)), (118, (2, 2, 0, 8, 0)), (120, (3, 55, 1, 203, 9)), (123, (1, 62, 0, 0, 0))]]
abbrev m_R_least : Nat := 229
def t_R_least : List (List (Nat × pE)) := [[(0, (1, 4, 0, 0, 0)), (1, (2, 7, 0, 5, 0)), (3, (1, 4, 0, 2, 0)), (4, (2, 7, 0, 7, 0)), (6, (2, 4, 0, 7, 0)), (8, (1, 1, 0, 0, 0)), (9, (1, 17, 0, 0, 0)), (10, (3, 29, 0, 31, 0)), (13, (2, 4, 0, 5, 0)), (15, (2, 4, 0, 7, 0))], [(17, (1, 14, 0, 0, 0)), (18, (2, 7, 0, 9, 0)), (20, (2, 4, 0, 7, 0)), (22, (2, 7, 0, 5, 0)), (24, (2, 4, 0, 9, 0)), (26, (2, 7, 0, 7, 0)), (28, (3, 22, 0, 6, 0)), (31, (2, 2, 0, 4, 0))], [(33, (3, 30, 0, 40, 0)), (36, (1, 4, 0, 0, 0)), (37, (3, 22, 0, 41, 0)), (40, (1, 4, 0, 2, 0)), (41, (2, 4, 0, 5, 0)), (43, (1, 13, 0, 0, 0)), (44, (1, 63, 0, 0, 0))]]
abbrev m_R_share : Nat := 230
def t_R_share : List (List (Nat × pE)) := [[(0, (1, 3, 0, 0, 0)), (1, (1, 0, 0, 0, 0)), (2, (3, 41, 0, 11, 0)), (5, (1, 3, 0, 0, 0)), (6, (1, 2, 0, 1, 0)), (7, (1, 0, 1, 0, 0)), (8, (3, 55, 1, 220, 3)), (11, (3, 29, 0, 38, 0)), (14, (1, 3, 0, 0, 0)), (15, (1, 2, 0, 2, 0))], [(16, (1, 0, 1, 0, 0)), (17, (3, 55, 1, 221, 3)), (20, (3, 29, 0, 38, 0)), (23, (1, 3, 0, 0, 0)), (24, (1, 2, 0, 3, 0)), (25, (1, 0, 0, 0, 0)), (26, (1, 0, 1, 0, 0)), (27, (3, 56, 1, 162, 3)), (30, (1, 0, 2, 0, 0)), (31, (1, 0, 1, 0, 0))], [(32, (3, 55, 1, 161, 4)), (35, (3, 30, 0, 40, 0)), (38, (1, 0, 0, 0, 0)), (39, (1, 62, 0, 0, 0)), (40, (1, 3, 0, 0, 0)), (41, (3, 55, 0, 202, 1)), (44, (1, 3, 0, 0, 0)), (45, (1, 2, 0, 1, 0)), (46, (3, 55, 1, 213, 2))], [(49, (2, 5, 0, 4, 0)), (51, (2, 2, 0, 4, 0)), (53, (3, 30, 0, 60, 0)), (56, (1, 2, 0, 3, 0)), (57, (3, 22, 0, 83, 0)), (60, (1, 3, 0, 0, 0)), (61, (3, 39, 0, 11, 43))], [(64, (2, 0, 26, 0, 0)), (66, (2, 0, 6, 0, 0)), (68, (1, 2, 0, 1, 0)), (69, (1, 9, 0, 0, 2)), (70, (1, 9, 0, 0, 0)), (71, (1, 2, 0, 2, 0)), (72, (1, 9, 0, 0, 0)), (73, (1, 43, 0, 0, 0)), (74, (1, 15, 0, 0, 0)), (75, (2, 2, 0, 4, 0)), (77, (1, 15, 0, 0, 0)), (78, (1, 2, 0, 3, 0)), (79, (3, 56, 2, 229, 3))], [(82, (1, 16, 0, 0, 0)), (83, (1, 62, 0, 0, 0))]]
abbrev m_R_ahead : Nat := 231
def t_R_ahead : List (List (Nat × pE)) := [[(0, (1, 3, 0, 0, 0)), (1, (1, 0, 0, 0, 0)), (2, (3, 41, 0, 11, 0)), (5, (1, 3, 0, 0, 0)), (6, (1, 2, 0, 1, 0)), (7, (1, 0, 0, 0, 0)), (8, (2, 0, 99, 0, 0)), (10, (3, 56, 1, 162, 3)), (13, (3, 29, 0, 29, 0))], [(16, (1, 2, 0, 2, 0)), (17, (1, 0, 0, 0, 0)), (18, (1, 0, 2, 0, 0)), (19, (3, 56, 1, 162, 3)), (22, (3, 29, 0, 29, 0)), (25, (1, 0, 1, 0, 0)), (26, (3, 22, 0, 30, 0)), (29, (1, 0, 0, 0, 0)), (30, (1, 0, 1, 0, 0)), (31, (1, 0, 1, 0, 0))], [(32, (3, 55, 1, 161, 4)), (35, (3, 30, 0, 40, 0)), (38, (1, 0, 0, 0, 0)), (39, (1, 62, 0, 0, 0)), (40, (1, 3, 0, 0, 0)), (41, (3, 55, 0, 202, 1)), (44, (1, 0, 0, 0, 0)), (45, (1, 5, 0, 3, 0)), (46, (1, 2, 0, 3, 0)), (47, (1, 2, 0, 1, 0))], [(48, (3, 26, 0, 61, 0)), (51, (1, 3, 0, 0, 0)), (52, (3, 55, 0, 212, 1)), (55, (3, 8, 1, 3, 0)), (58, (3, 22, 0, 46, 0)), (61, (1, 2, 0, 2, 0)), (62, (3, 30, 0, 72, 0))], [(65, (1, 3, 0, 0, 0)), (66, (3, 55, 1, 214, 1)), (69, (3, 22, 0, 88, 0)), (72, (1, 2, 0, 2, 0)), (73, (1, 0, 1, 0, 0)), (74, (3, 24, 0, 84, 0)), (77, (1, 3, 0, 0, 0)), (78, (3, 55, 1, 204, 1))], [(81, (3, 22, 0, 88, 0)), (84, (1, 3, 0, 0, 0)), (85, (3, 55, 1, 216, 1)), (88, (1, 62, 0, 0, 0))]]
abbrev m_R_when : Nat := 232
def t_R_when : List (List (Nat × pE)) := [[(0, (1, 3, 0, 0, 0)), (1, (1, 0, 0, 0, 0)), (2, (3, 41, 0, 11, 0)), (5, (1, 3, 0, 0, 0)), (6, (1, 2, 0, 1, 0)), (7, (1, 0, 1, 0, 0)), (8, (3, 55, 1, 221, 3)), (11, (3, 30, 0, 16, 0)), (14, (1, 0, 0, 0, 0)), (15, (1, 62, 0, 0, 0))], [(16, (1, 3, 0, 0, 0)), (17, (3, 55, 0, 202, 1)), (20, (1, 3, 0, 0, 0)), (21, (3, 39, 0, 11, 43)), (24, (2, 0, 8, 0, 0)), (26, (1, 2, 0, 1, 0)), (27, (1, 9, 0, 0, 0)), (28, (1, 43, 0, 0, 0)), (29, (1, 5, 0, 2, 0)), (30, (1, 2, 0, 2, 0)), (31, (1, 0, (-1), 0, 0))], [(32, (3, 24, 0, 37, 0)), (35, (1, 0, (-1), 0, 0)), (36, (1, 62, 0, 0, 0)), (37, (1, 0, 0, 0, 0)), (38, (1, 5, 0, 3, 0)), (39, (1, 2, 0, 3, 0)), (40, (3, 0, 200, 0, 0)), (43, (3, 27, 0, 67, 0)), (46, (1, 3, 0, 0, 0)), (47, (1, 2, 0, 2, 0))], [(48, (3, 55, 1, 215, 2)), (51, (1, 2, 0, 1, 0)), (52, (3, 24, 0, 57, 0)), (55, (1, 2, 0, 3, 0)), (56, (1, 62, 0, 0, 0)), (57, (1, 3, 0, 0, 0)), (58, (3, 55, 0, 212, 1)), (61, (3, 8, 1, 3, 0))], [(64, (3, 22, 0, 39, 0)), (67, (1, 0, (-1), 0, 0)), (68, (1, 62, 0, 0, 0))]]
abbrev m_R_meals : Nat := 233
def t_R_meals : List (List (Nat × pE)) := [[(0, (1, 3, 0, 0, 0)), (1, (1, 0, 0, 0, 0)), (2, (3, 41, 0, 11, 0)), (5, (1, 3, 0, 0, 0)), (6, (1, 2, 0, 1, 0)), (7, (1, 0, 1, 0, 0)), (8, (3, 55, 1, 221, 3)), (11, (3, 29, 0, 31, 0)), (14, (1, 3, 0, 0, 0)), (15, (1, 2, 0, 2, 0))], [(16, (1, 0, 0, 0, 0)), (17, (3, 0, 400, 0, 0)), (20, (3, 56, 1, 162, 3)), (23, (1, 0, 2, 0, 0)), (24, (1, 0, 1, 0, 0)), (25, (3, 55, 1, 161, 4)), (28, (3, 30, 0, 33, 0)), (31, (1, 0, 0, 0, 0))], [(32, (1, 62, 0, 0, 0)), (33, (1, 3, 0, 0, 0)), (34, (1, 2, 0, 1, 0)), (35, (1, 2, 0, 2, 0)), (36, (3, 55, 1, 234, 3)), (39, (1, 62, 0, 0, 0))]]
abbrev m_R_mealsOf : Nat := 234
def t_R_mealsOf : List (List (Nat × pE)) := [[(0, (1, 3, 0, 0, 0)), (1, (3, 39, 0, 11, 15)), (4, (1, 2, 0, 1, 0)), (5, (1, 43, 0, 0, 0)), (6, (1, 3, 0, 0, 0)), (7, (3, 39, 0, 11, 42)), (10, (2, 0, 20, 0, 0)), (12, (1, 2, 0, 1, 0)), (13, (1, 9, 0, 0, 0)), (14, (1, 43, 0, 0, 0)), (15, (1, 9, 0, 0, 1))], [(16, (1, 5, 0, 3, 0)), (17, (1, 0, 0, 0, 0)), (18, (2, 5, 0, 4, 0)), (20, (1, 0, 0, 0, 0)), (21, (2, 5, 0, 5, 0)), (23, (2, 2, 0, 5, 0)), (25, (1, 2, 0, 2, 0)), (26, (3, 26, 0, 52, 0)), (29, (1, 2, 0, 3, 0)), (30, (3, 33, 0, 43, 0))], [(33, (1, 3, 0, 0, 0)), (34, (3, 39, 0, 11, 15)), (37, (1, 2, 0, 1, 0)), (38, (1, 43, 0, 0, 0)), (39, (1, 5, 0, 3, 0)), (40, (3, 8, 1, 4, 0)), (43, (3, 8, (-1), 3, 0)), (46, (3, 8, 1, 5, 0))], [(49, (3, 22, 0, 23, 0)), (52, (2, 2, 0, 4, 0)), (54, (1, 62, 0, 0, 0))]]
abbrev m_R_firstMark : Nat := 235
def t_R_firstMark : List (List (Nat × pE)) := [[(0, (1, 3, 0, 0, 0)), (1, (1, 3, 0, 0, 0)), (2, (3, 39, 0, 11, 42)), (5, (1, 0, 0, 0, 0)), (6, (1, 2, 0, 2, 0)), (7, (1, 9, 0, 0, 0)), (8, (1, 43, 0, 0, 0)), (9, (1, 3, 0, 0, 0)), (10, (3, 39, 0, 11, 14)), (13, (1, 2, 0, 1, 0)), (14, (1, 43, 0, 0, 0)), (15, (1, 0, 0, 0, 0))], [(16, (1, 0, 0, 0, 0)), (17, (1, 2, 0, 2, 0)), (18, (1, 2, 0, 1, 0)), (19, (1, 0, 0, 0, 0)), (20, (1, 0, 0, 0, 0)), (21, (3, 55, 1, 203, 9)), (24, (1, 62, 0, 0, 0))]]
abbrev m_R_among : Nat := 236
def t_R_among : List (List (Nat × pE)) := [[(0, (1, 1, 1, 0, 0)), (1, (1, 7, 0, 2, 0)), (2, (1, 0, 1, 0, 0)), (3, (2, 5, 0, 4, 1)), (5, (2, 2, 0, 4, 0)), (7, (1, 2, 0, 0, 0)), (8, (3, 27, 0, 37, 0)), (11, (1, 4, 0, 2, 0)), (12, (3, 1, 1000000000, 0, 0)), (15, (1, 17, 0, 0, 0))], [(16, (3, 33, 0, 37, 0)), (19, (1, 4, 0, 2, 0)), (20, (1, 2, 0, 1, 0)), (21, (2, 2, 0, 4, 0)), (23, (1, 9, 0, 0, 0)), (24, (1, 15, 0, 0, 0)), (25, (1, 12, 0, 0, 0)), (26, (2, 2, 0, 4, 0)), (28, (1, 15, 0, 0, 0)), (29, (1, 13, 0, 0, 0)), (30, (1, 7, 0, 2, 0)), (31, (3, 8, 1, 4, 1))], [(34, (3, 22, 0, 5, 0)), (37, (1, 4, 0, 2, 0)), (38, (3, 1, 1000000000, 0, 0)), (41, (1, 17, 0, 0, 0)), (42, (3, 34, 0, 51, 0)), (45, (3, 1, 1000000000, 0, 0))], [(48, (3, 22, 0, 52, 0)), (51, (1, 4, 0, 2, 0)), (52, (1, 63, 0, 0, 0))]]
abbrev m_R_goings : Nat := 237
def t_R_goings : List (List (Nat × pE)) := [[(0, (1, 3, 0, 0, 0)), (1, (1, 0, 0, 0, 0)), (2, (3, 41, 0, 11, 0)), (5, (1, 3, 0, 0, 0)), (6, (1, 2, 0, 1, 0)), (7, (1, 0, 1, 0, 0)), (8, (3, 55, 1, 221, 3)), (11, (3, 29, 0, 29, 0)), (14, (1, 3, 0, 0, 0)), (15, (1, 2, 0, 2, 0))], [(16, (1, 0, 0, 0, 0)), (17, (1, 0, 1, 0, 0)), (18, (3, 56, 1, 162, 3)), (21, (1, 0, 2, 0, 0)), (22, (1, 0, 1, 0, 0)), (23, (3, 55, 1, 161, 4)), (26, (3, 30, 0, 31, 0)), (29, (1, 0, 0, 0, 0)), (30, (1, 62, 0, 0, 0)), (31, (1, 1, 1, 0, 0))], [(32, (1, 7, 0, 3, 0)), (33, (1, 0, 0, 0, 0)), (34, (2, 5, 0, 5, 1)), (36, (1, 0, 0, 0, 0)), (37, (2, 5, 0, 6, 1)), (39, (2, 2, 0, 6, 0)), (41, (1, 3, 0, 0, 0)), (42, (3, 38, 0, 11, 22)), (45, (3, 26, 0, 177, 0))], [(48, (1, 3, 0, 0, 0)), (49, (3, 39, 0, 11, 47)), (52, (2, 2, 0, 6, 0)), (54, (1, 43, 0, 0, 0)), (55, (1, 0, (-1), 0, 0)), (56, (3, 23, 0, 171, 0)), (59, (1, 3, 0, 0, 0)), (60, (3, 39, 0, 11, 47)), (63, (2, 2, 0, 6, 0))], [(65, (1, 43, 0, 0, 0)), (66, (3, 30, 0, 72, 0)), (69, (3, 22, 0, 171, 0)), (72, (1, 3, 0, 0, 0)), (73, (1, 2, 0, 1, 0)), (74, (2, 2, 0, 6, 0)), (76, (3, 55, 1, 235, 3)), (79, (2, 5, 0, 7, 1))], [(81, (2, 2, 0, 7, 0)), (83, (3, 29, 0, 99, 0)), (86, (1, 3, 0, 0, 0)), (87, (3, 39, 0, 11, 47)), (90, (2, 2, 0, 6, 0)), (92, (1, 43, 0, 0, 0)), (93, (2, 2, 0, 7, 0)), (95, (1, 11, 0, 0, 0))], [(96, (3, 29, 0, 109, 0)), (99, (1, 2, 0, 2, 0)), (100, (3, 30, 0, 107, 0)), (103, (1, 0, 0, 0, 0)), (104, (3, 22, 0, 108, 0)), (107, (1, 0, (-1), 0, 0)), (108, (1, 62, 0, 0, 0)), (109, (1, 3, 0, 0, 0)), (110, (3, 39, 0, 11, 47))], [(113, (2, 2, 0, 6, 0)), (115, (1, 43, 0, 0, 0)), (116, (2, 2, 0, 7, 0)), (118, (1, 10, 0, 0, 0)), (119, (2, 5, 0, 8, 1)), (121, (1, 4, 0, 3, 0)), (122, (2, 2, 0, 8, 0)), (124, (2, 2, 0, 5, 0)), (126, (3, 26, 0, 139, 0))], [(129, (2, 2, 0, 8, 0)), (131, (2, 2, 0, 5, 0)), (133, (3, 56, 2, 236, 2)), (136, (3, 22, 0, 146, 0)), (139, (2, 2, 0, 5, 0)), (141, (2, 2, 0, 8, 0)), (143, (3, 56, 2, 236, 2))], [(146, (1, 12, 0, 0, 0)), (147, (1, 7, 0, 3, 0)), (148, (1, 4, 0, 3, 0)), (149, (3, 1, 1000000000, 0, 0)), (152, (1, 17, 0, 0, 0)), (153, (3, 34, 0, 162, 0)), (156, (3, 1, 1000000000, 0, 0)), (159, (3, 22, 0, 163, 0))], [(162, (1, 4, 0, 3, 0)), (163, (1, 7, 0, 3, 0)), (164, (2, 2, 0, 5, 0)), (166, (2, 2, 0, 8, 0)), (168, (1, 9, 0, 0, 0)), (169, (2, 5, 0, 5, 1)), (171, (3, 8, 1, 6, 1)), (174, (3, 22, 0, 39, 0))], [(177, (1, 2, 0, 2, 0)), (178, (3, 30, 0, 186, 0)), (181, (1, 4, 0, 3, 0)), (182, (1, 16, 0, 0, 0)), (183, (3, 22, 0, 188, 0)), (186, (2, 2, 0, 5, 0)), (188, (1, 62, 0, 0, 0))]]
abbrev m_R_bright : Nat := 238
def t_R_bright : List (List (Nat × pE)) := [[(0, (1, 3, 0, 0, 0)), (1, (1, 0, 0, 0, 0)), (2, (3, 41, 0, 11, 0)), (5, (1, 3, 0, 0, 0)), (6, (1, 2, 0, 1, 0)), (7, (1, 0, 1, 0, 0)), (8, (3, 55, 1, 221, 3)), (11, (3, 30, 0, 16, 0)), (14, (1, 0, 0, 0, 0)), (15, (1, 62, 0, 0, 0))], [(16, (1, 0, (-1), 0, 0)), (17, (1, 5, 0, 2, 0)), (18, (1, 0, 0, 0, 0)), (19, (1, 5, 0, 3, 0)), (20, (1, 2, 0, 3, 0)), (21, (1, 3, 0, 0, 0)), (22, (3, 38, 0, 11, 22)), (25, (3, 26, 0, 66, 0)), (28, (1, 3, 0, 0, 0)), (29, (3, 39, 0, 11, 47))], [(32, (1, 2, 0, 3, 0)), (33, (1, 43, 0, 0, 0)), (34, (1, 0, (-1), 0, 0)), (35, (3, 24, 0, 60, 0)), (38, (1, 2, 0, 2, 0)), (39, (1, 0, (-1), 0, 0)), (40, (3, 23, 0, 58, 0)), (43, (1, 3, 0, 0, 0)), (44, (1, 2, 0, 1, 0)), (45, (1, 2, 0, 3, 0)), (46, (3, 55, 1, 235, 3))], [(49, (1, 3, 0, 0, 0)), (50, (1, 2, 0, 1, 0)), (51, (1, 2, 0, 2, 0)), (52, (3, 55, 1, 235, 3)), (55, (3, 28, 0, 60, 0)), (58, (1, 2, 0, 3, 0)), (59, (1, 5, 0, 2, 0)), (60, (3, 8, 1, 3, 0)), (63, (3, 22, 0, 20, 0))], [(66, (1, 2, 0, 2, 0)), (67, (1, 62, 0, 0, 0))]]
abbrev m_R_layPlaces : Nat := 239
def t_R_layPlaces : List (List (Nat × pE)) := [[(0, (1, 0, 0, 0, 0)), (1, (1, 5, 0, 1, 0)), (2, (1, 2, 0, 1, 0)), (3, (3, 0, 256, 0, 0)), (6, (3, 26, 0, 30, 0)), (9, (1, 3, 0, 0, 0)), (10, (3, 39, 0, 11, 49)), (13, (1, 3, 0, 0, 0)), (14, (3, 38, 0, 11, 23))], [(17, (2, 0, 8, 0, 0)), (19, (1, 9, 0, 0, 3)), (20, (1, 2, 0, 1, 0)), (21, (1, 9, 0, 0, 7)), (22, (1, 0, 0, 0, 0)), (23, (1, 44, 0, 0, 0)), (24, (3, 8, 1, 1, 0)), (27, (3, 22, 0, 2, 0)), (30, (1, 3, 0, 0, 0)), (31, (3, 38, 0, 11, 23))], [(34, (1, 0, 1, 0, 0)), (35, (1, 9, 0, 0, 1)), (36, (1, 5, 0, 1, 0)), (37, (1, 2, 0, 1, 0)), (38, (3, 31, 0, 173, 0)), (41, (1, 0, 0, 0, 0)), (42, (1, 5, 0, 2, 0)), (43, (1, 2, 0, 2, 0)), (44, (1, 0, 1, 0, 0)), (45, (1, 3, 0, 0, 0)), (46, (3, 38, 0, 11, 22))], [(49, (1, 9, 0, 0, 3)), (50, (3, 26, 0, 167, 0)), (53, (1, 0, (-1), 0, 0)), (54, (1, 5, 0, 3, 0)), (55, (1, 0, 0, 0, 0)), (56, (2, 5, 0, 4, 0)), (58, (2, 2, 0, 4, 0)), (60, (1, 3, 0, 0, 0)), (61, (3, 38, 0, 11, 22))], [(64, (3, 26, 0, 149, 0)), (67, (1, 2, 0, 2, 0)), (68, (2, 2, 0, 4, 0)), (70, (1, 9, 0, 0, 4)), (71, (1, 0, 1, 0, 0)), (72, (1, 9, 0, 0, 6)), (73, (1, 0, 1, 0, 0)), (74, (3, 23, 0, 143, 0)), (77, (1, 3, 0, 0, 0)), (78, (3, 39, 0, 11, 49))], [(81, (1, 2, 0, 1, 0)), (82, (1, 0, 1, 0, 0)), (83, (1, 9, 0, 0, 0)), (84, (2, 0, 8, 0, 0)), (86, (1, 9, 0, 0, 3)), (87, (1, 2, 0, 2, 0)), (88, (1, 9, 0, 0, 7)), (89, (1, 0, 1, 0, 0)), (90, (2, 2, 0, 4, 0)), (92, (1, 9, 0, 0, 3)), (93, (1, 9, 0, 0, 7)), (94, (1, 43, 0, 0, 0)), (95, (1, 0, (-1), 0, 0))], [(96, (3, 24, 0, 102, 0)), (99, (3, 22, 0, 143, 0)), (102, (1, 3, 0, 0, 0)), (103, (1, 2, 0, 1, 0)), (104, (2, 2, 0, 4, 0)), (106, (3, 55, 1, 235, 3)), (109, (1, 3, 0, 0, 0)), (110, (3, 39, 0, 11, 49))], [(113, (1, 2, 0, 1, 0)), (114, (1, 0, 1, 0, 0)), (115, (1, 9, 0, 0, 0)), (116, (2, 0, 8, 0, 0)), (118, (1, 9, 0, 0, 3)), (119, (1, 2, 0, 2, 0)), (120, (1, 9, 0, 0, 7)), (121, (1, 0, 1, 0, 0)), (122, (2, 2, 0, 4, 0)), (124, (1, 9, 0, 0, 3)), (125, (1, 9, 0, 0, 7)), (126, (1, 43, 0, 0, 0)), (127, (1, 9, 0, 0, 0))], [(128, (2, 5, 0, 5, 0)), (130, (2, 2, 0, 5, 0)), (132, (1, 2, 0, 3, 0)), (133, (3, 28, 0, 141, 0)), (136, (2, 2, 0, 5, 0)), (138, (3, 22, 0, 142, 0)), (141, (1, 2, 0, 3, 0)), (142, (1, 5, 0, 3, 0)), (143, (3, 8, 1, 4, 0))], [(146, (3, 22, 0, 58, 0)), (149, (1, 3, 0, 0, 0)), (150, (3, 39, 0, 11, 49)), (153, (1, 2, 0, 1, 0)), (154, (2, 0, 8, 0, 0)), (156, (1, 9, 0, 0, 3)), (157, (1, 2, 0, 2, 0)), (158, (1, 9, 0, 0, 7)), (159, (1, 2, 0, 3, 0))], [(160, (1, 44, 0, 0, 0)), (161, (3, 8, 1, 2, 0)), (164, (3, 22, 0, 43, 0)), (167, (3, 8, (-1), 1, 0)), (170, (3, 22, 0, 37, 0)), (173, (1, 65, 0, 0, 0))]]
abbrev m_R_places : Nat := 240
def t_R_places : List (List (Nat × pE)) := [[(0, (1, 3, 0, 0, 0)), (1, (1, 0, 0, 0, 0)), (2, (3, 41, 0, 11, 0)), (5, (1, 3, 0, 0, 0)), (6, (3, 55, 0, 239, 1)), (9, (1, 3, 0, 0, 0)), (10, (3, 39, 0, 11, 49)), (13, (1, 0, 0, 0, 0)), (14, (1, 43, 0, 0, 0)), (15, (1, 62, 0, 0, 0))]]
abbrev m_R_placed : Nat := 241
def t_R_placed : List (List (Nat × pE)) := [[(0, (1, 3, 0, 0, 0)), (1, (1, 0, 0, 0, 0)), (2, (3, 41, 0, 11, 0)), (5, (1, 3, 0, 0, 0)), (6, (1, 2, 0, 1, 0)), (7, (1, 0, 1, 0, 0)), (8, (3, 55, 1, 221, 3)), (11, (3, 30, 0, 16, 0)), (14, (1, 0, 0, 0, 0)), (15, (1, 62, 0, 0, 0))], [(16, (1, 3, 0, 0, 0)), (17, (3, 55, 0, 239, 1)), (20, (1, 3, 0, 0, 0)), (21, (3, 39, 0, 11, 49)), (24, (1, 0, 0, 0, 0)), (25, (1, 43, 0, 0, 0)), (26, (1, 0, (-1), 0, 0)), (27, (3, 24, 0, 32, 0)), (30, (1, 0, (-1), 0, 0)), (31, (1, 62, 0, 0, 0))], [(32, (1, 0, 0, 0, 0)), (33, (1, 5, 0, 2, 0)), (34, (1, 0, 0, 0, 0)), (35, (1, 5, 0, 3, 0)), (36, (1, 0, 0, 0, 0)), (37, (2, 5, 0, 4, 0)), (39, (1, 2, 0, 2, 0)), (40, (2, 2, 0, 4, 0)), (42, (1, 9, 0, 0, 4)), (43, (1, 0, 1, 0, 0)), (44, (1, 9, 0, 0, 6)), (45, (1, 0, 1, 0, 0)), (46, (3, 23, 0, 111, 0))], [(49, (1, 3, 0, 0, 0)), (50, (3, 39, 0, 11, 49)), (53, (1, 2, 0, 3, 0)), (54, (1, 0, 1, 0, 0)), (55, (1, 9, 0, 0, 0)), (56, (2, 0, 8, 0, 0)), (58, (1, 9, 0, 0, 3)), (59, (1, 2, 0, 2, 0)), (60, (1, 9, 0, 0, 7)), (61, (1, 0, 1, 0, 0)), (62, (2, 2, 0, 4, 0))], [(64, (1, 9, 0, 0, 3)), (65, (1, 9, 0, 0, 7)), (66, (1, 43, 0, 0, 0)), (67, (1, 0, (-1), 0, 0)), (68, (3, 23, 0, 111, 0)), (71, (1, 3, 0, 0, 0)), (72, (1, 2, 0, 3, 0)), (73, (2, 2, 0, 4, 0)), (75, (3, 55, 1, 235, 3)), (78, (1, 3, 0, 0, 0)), (79, (3, 39, 0, 11, 49))], [(82, (1, 2, 0, 3, 0)), (83, (1, 0, 1, 0, 0)), (84, (1, 9, 0, 0, 0)), (85, (2, 0, 8, 0, 0)), (87, (1, 9, 0, 0, 3)), (88, (1, 2, 0, 2, 0)), (89, (1, 9, 0, 0, 7)), (90, (1, 0, 1, 0, 0)), (91, (2, 2, 0, 4, 0)), (93, (1, 9, 0, 0, 3)), (94, (1, 9, 0, 0, 7)), (95, (1, 43, 0, 0, 0))], [(96, (1, 9, 0, 0, 0)), (97, (1, 3, 0, 0, 0)), (98, (3, 39, 0, 11, 49)), (101, (1, 2, 0, 3, 0)), (102, (2, 0, 8, 0, 0)), (104, (1, 9, 0, 0, 3)), (105, (1, 2, 0, 2, 0)), (106, (1, 9, 0, 0, 7)), (107, (1, 43, 0, 0, 0)), (108, (3, 23, 0, 117, 0)), (111, (3, 8, 1, 4, 0))], [(114, (3, 22, 0, 39, 0)), (117, (1, 2, 0, 3, 0)), (118, (1, 2, 0, 1, 0)), (119, (3, 24, 0, 125, 0)), (122, (2, 2, 0, 4, 0)), (124, (1, 62, 0, 0, 0)), (125, (1, 2, 0, 2, 0)), (126, (1, 0, 1, 0, 0)), (127, (2, 2, 0, 4, 0))], [(129, (1, 9, 0, 0, 3)), (130, (1, 9, 0, 0, 7)), (131, (1, 5, 0, 2, 0)), (132, (3, 8, 1, 3, 0)), (135, (3, 22, 0, 36, 0))]]
abbrev m_R_lays : Nat := 242
def t_R_lays : List (List (Nat × pE)) := [[(0, (1, 2, 0, 1, 0)), (1, (1, 3, 0, 0, 0)), (2, (3, 38, 0, 11, 24)), (5, (3, 24, 0, 10, 0)), (8, (1, 0, 1, 0, 0)), (9, (1, 66, 0, 0, 0)), (10, (1, 0, 0, 0, 0)), (11, (1, 5, 0, 3, 0)), (12, (1, 2, 0, 3, 0)), (13, (1, 2, 0, 2, 0)), (14, (3, 26, 0, 96, 0))], [(17, (1, 3, 0, 0, 0)), (18, (3, 39, 0, 11, 51)), (21, (1, 2, 0, 3, 0)), (22, (1, 43, 0, 0, 0)), (23, (1, 3, 0, 0, 0)), (24, (3, 39, 0, 11, 16)), (27, (1, 2, 0, 1, 0)), (28, (1, 43, 0, 0, 0)), (29, (1, 9, 0, 0, 0)), (30, (1, 3, 0, 0, 0)), (31, (3, 38, 0, 11, 25))], [(34, (3, 28, 0, 40, 0)), (37, (3, 22, 0, 90, 0)), (40, (1, 3, 0, 0, 0)), (41, (3, 39, 0, 11, 51)), (44, (1, 2, 0, 3, 0)), (45, (1, 19, 0, 0, 0)), (46, (1, 43, 0, 0, 0)), (47, (1, 3, 0, 0, 0))], [(48, (3, 39, 0, 11, 16)), (51, (1, 2, 0, 1, 0)), (52, (1, 43, 0, 0, 0)), (53, (1, 9, 0, 0, 0)), (54, (1, 44, 0, 0, 0)), (55, (1, 3, 0, 0, 0)), (56, (3, 39, 0, 11, 50)), (59, (1, 2, 0, 1, 0)), (60, (1, 2, 0, 3, 0)), (61, (1, 44, 0, 0, 0)), (62, (1, 3, 0, 0, 0)), (63, (1, 2, 0, 1, 0))], [(64, (1, 0, 1, 0, 0)), (65, (1, 9, 0, 0, 0)), (66, (1, 2, 0, 2, 0)), (67, (3, 55, 1, 242, 3)), (70, (3, 29, 0, 75, 0)), (73, (1, 0, 1, 0, 0)), (74, (1, 66, 0, 0, 0)), (75, (1, 3, 0, 0, 0)), (76, (3, 39, 0, 11, 51)), (79, (1, 2, 0, 3, 0))], [(80, (1, 19, 0, 0, 0)), (81, (1, 43, 0, 0, 0)), (82, (1, 3, 0, 0, 0)), (83, (3, 39, 0, 11, 16)), (86, (1, 2, 0, 1, 0)), (87, (1, 43, 0, 0, 0)), (88, (1, 9, 0, 0, 1)), (89, (1, 44, 0, 0, 0)), (90, (3, 8, 1, 3, 0)), (93, (3, 22, 0, 12, 0))], [(96, (1, 0, 0, 0, 0)), (97, (1, 66, 0, 0, 0))]]
abbrev m_R_findPacking : Nat := 243
def t_R_findPacking : List (List (Nat × pE)) := [[(0, (1, 0, 0, 0, 0)), (1, (1, 5, 0, 1, 0)), (2, (1, 2, 0, 1, 0)), (3, (1, 3, 0, 0, 0)), (4, (3, 38, 0, 11, 24)), (7, (3, 26, 0, 31, 0)), (10, (1, 3, 0, 0, 0)), (11, (3, 39, 0, 11, 16)), (14, (1, 2, 0, 1, 0)), (15, (1, 43, 0, 0, 0))], [(16, (1, 3, 0, 0, 0)), (17, (3, 38, 0, 11, 25)), (20, (3, 28, 0, 25, 0)), (23, (1, 0, (-1), 0, 0)), (24, (1, 62, 0, 0, 0)), (25, (3, 8, 1, 1, 0)), (28, (3, 22, 0, 2, 0)), (31, (1, 0, 0, 0, 0))], [(32, (1, 5, 0, 1, 0)), (33, (1, 2, 0, 1, 0)), (34, (2, 0, 8, 0, 0)), (36, (3, 27, 0, 77, 0)), (39, (1, 0, 0, 0, 0)), (40, (1, 5, 0, 2, 0)), (41, (1, 2, 0, 2, 0)), (42, (2, 0, 8, 0, 0)), (44, (3, 26, 0, 60, 0)), (47, (1, 3, 0, 0, 0))], [(48, (3, 39, 0, 11, 51)), (51, (1, 2, 0, 2, 0)), (52, (1, 0, 0, 0, 0)), (53, (1, 44, 0, 0, 0)), (54, (3, 8, 1, 2, 0)), (57, (3, 22, 0, 41, 0)), (60, (1, 3, 0, 0, 0)), (61, (1, 0, 0, 0, 0)), (62, (1, 2, 0, 1, 0)), (63, (3, 55, 1, 242, 3))], [(66, (3, 29, 0, 71, 0)), (69, (1, 2, 0, 1, 0)), (70, (1, 62, 0, 0, 0)), (71, (3, 8, 1, 1, 0)), (74, (3, 22, 0, 33, 0)), (77, (1, 0, (-1), 0, 0)), (78, (1, 62, 0, 0, 0))]]
abbrev m_R_packing : Nat := 244
def t_R_packing : List (List (Nat × pE)) := [[(0, (1, 3, 0, 0, 0)), (1, (1, 0, 0, 0, 0)), (2, (3, 41, 0, 11, 0)), (5, (1, 3, 0, 0, 0)), (6, (3, 55, 1, 243, 1)), (9, (1, 62, 0, 0, 0))]]
abbrev m_R_packed : Nat := 245
def t_R_packed : List (List (Nat × pE)) := [[(0, (1, 3, 0, 0, 0)), (1, (1, 0, 0, 0, 0)), (2, (3, 41, 0, 11, 0)), (5, (1, 3, 0, 0, 0)), (6, (1, 2, 0, 1, 0)), (7, (1, 0, 0, 0, 0)), (8, (1, 3, 0, 0, 0)), (9, (3, 38, 0, 11, 24)), (12, (1, 0, 1, 0, 0)), (13, (1, 9, 0, 0, 1)), (14, (3, 56, 1, 162, 3))], [(17, (1, 0, 1, 0, 0)), (18, (1, 0, 0, 0, 0)), (19, (3, 55, 1, 161, 4)), (22, (3, 30, 0, 27, 0)), (25, (1, 0, 0, 0, 0)), (26, (1, 62, 0, 0, 0)), (27, (1, 3, 0, 0, 0)), (28, (3, 55, 1, 243, 1)), (31, (1, 0, (-1), 0, 0))], [(32, (3, 24, 0, 39, 0)), (35, (1, 0, (-1), 0, 0)), (36, (3, 22, 0, 45, 0)), (39, (1, 3, 0, 0, 0)), (40, (3, 39, 0, 11, 50)), (43, (1, 2, 0, 1, 0)), (44, (1, 43, 0, 0, 0)), (45, (1, 62, 0, 0, 0))]]
abbrev m_R_well : Nat := 246
def t_R_well : List (List (Nat × pE)) := [[(0, (1, 3, 0, 0, 0)), (1, (1, 0, 0, 0, 0)), (2, (3, 41, 0, 11, 0)), (5, (1, 3, 0, 0, 0)), (6, (1, 2, 0, 1, 0)), (7, (1, 0, 0, 0, 0)), (8, (2, 0, 16, 0, 0)), (10, (3, 56, 1, 162, 3)), (13, (3, 29, 0, 39, 0))], [(16, (1, 2, 0, 2, 0)), (17, (1, 0, 0, 0, 0)), (18, (2, 0, 12, 0, 0)), (20, (3, 56, 1, 162, 3)), (23, (3, 29, 0, 39, 0)), (26, (1, 2, 0, 3, 0)), (27, (1, 0, 0, 0, 0)), (28, (1, 0, 1, 0, 0)), (29, (3, 56, 1, 162, 3))], [(32, (3, 29, 0, 39, 0)), (35, (1, 0, 1, 0, 0)), (36, (3, 22, 0, 40, 0)), (39, (1, 0, 0, 0, 0)), (40, (1, 0, 1, 0, 0)), (41, (1, 0, 1, 0, 0)), (42, (3, 55, 1, 161, 4)), (45, (3, 30, 0, 50, 0))], [(48, (1, 1, 0, 0, 0)), (49, (1, 63, 0, 0, 0)), (50, (1, 1, 1, 0, 0)), (51, (2, 7, 0, 4, 0)), (53, (1, 1, 1, 0, 0)), (54, (2, 7, 0, 6, 0)), (56, (1, 0, 0, 0, 0)), (57, (2, 5, 0, 8, 1)), (59, (2, 2, 0, 8, 0)), (61, (1, 2, 0, 2, 0)), (62, (3, 26, 0, 89, 0))], [(65, (2, 4, 0, 4, 0)), (67, (2, 0, 16, 0, 0)), (69, (1, 2, 0, 1, 0)), (70, (1, 9, 0, 0, 1)), (71, (1, 15, 0, 0, 0)), (72, (1, 12, 0, 0, 0)), (73, (2, 7, 0, 4, 0)), (75, (2, 4, 0, 6, 0)), (77, (3, 1, 16, 0, 0))], [(80, (1, 12, 0, 0, 0)), (81, (2, 7, 0, 6, 0)), (83, (3, 8, 1, 8, 1)), (86, (3, 22, 0, 59, 0)), (89, (2, 4, 0, 4, 0)), (91, (2, 4, 0, 6, 0)), (93, (1, 2, 0, 3, 0)), (94, (3, 56, 2, 229, 3))], [(97, (1, 63, 0, 0, 0))]]
abbrev m_R_hasBy : Nat := 247
def t_R_hasBy : List (List (Nat × pE)) := [[(0, (1, 2, 0, 0, 0)), (1, (1, 2, 0, 1, 0)), (2, (3, 24, 0, 17, 0)), (5, (1, 2, 0, 0, 0)), (6, (3, 30, 0, 13, 0)), (9, (1, 2, 0, 2, 0)), (10, (3, 22, 0, 28, 0)), (13, (1, 2, 0, 3, 0)), (14, (3, 22, 0, 28, 0))], [(17, (1, 2, 0, 0, 0)), (18, (1, 0, 1, 0, 0)), (19, (3, 24, 0, 27, 0)), (22, (2, 2, 0, 4, 0)), (24, (3, 22, 0, 28, 0)), (27, (1, 0, 0, 0, 0)), (28, (1, 62, 0, 0, 0))]]
abbrev m_R_getsUp : Nat := 248
def t_R_getsUp : List (List (Nat × pE)) := [[(0, (1, 3, 0, 0, 0)), (1, (1, 0, 0, 0, 0)), (2, (3, 41, 0, 11, 0)), (5, (1, 3, 0, 0, 0)), (6, (1, 2, 0, 1, 0)), (7, (1, 0, 0, 0, 0)), (8, (2, 0, 99, 0, 0)), (10, (3, 56, 1, 162, 3)), (13, (3, 29, 0, 50, 0))], [(16, (1, 2, 0, 2, 0)), (17, (1, 0, 0, 0, 0)), (18, (2, 0, 99, 0, 0)), (20, (3, 56, 1, 162, 3)), (23, (3, 29, 0, 50, 0)), (26, (1, 2, 0, 3, 0)), (27, (1, 0, 0, 0, 0)), (28, (2, 0, 99, 0, 0)), (30, (3, 56, 1, 162, 3))], [(33, (3, 29, 0, 50, 0)), (36, (2, 2, 0, 4, 0)), (38, (1, 0, 0, 0, 0)), (39, (1, 0, 2, 0, 0)), (40, (3, 56, 1, 162, 3)), (43, (3, 29, 0, 50, 0)), (46, (1, 0, 1, 0, 0)), (47, (3, 22, 0, 51, 0))], [(50, (1, 0, 0, 0, 0)), (51, (1, 0, 1, 0, 0)), (52, (1, 0, 1, 0, 0)), (53, (3, 55, 1, 161, 4)), (56, (3, 30, 0, 61, 0)), (59, (1, 0, 0, 0, 0)), (60, (1, 62, 0, 0, 0)), (61, (1, 0, 0, 0, 0)), (62, (2, 5, 0, 5, 0))], [(64, (1, 0, (-1), 0, 0)), (65, (2, 5, 0, 6, 0)), (67, (1, 0, 0, 0, 0)), (68, (2, 5, 0, 7, 0)), (70, (2, 2, 0, 7, 0)), (72, (1, 0, 4, 0, 0)), (73, (3, 26, 0, 171, 0)), (76, (2, 2, 0, 7, 0)), (78, (1, 0, 2, 0, 0)), (79, (1, 10, 0, 0, 0))], [(80, (2, 5, 0, 8, 0)), (82, (2, 2, 0, 7, 0)), (84, (1, 0, 2, 0, 0)), (85, (1, 11, 0, 0, 0)), (86, (2, 5, 0, 9, 0)), (88, (1, 0, 1, 0, 0)), (89, (2, 2, 0, 8, 0)), (91, (1, 9, 0, 0, 1)), (92, (2, 2, 0, 9, 0)), (94, (1, 2, 0, 1, 0)), (95, (1, 2, 0, 2, 0))], [(96, (1, 2, 0, 3, 0)), (97, (3, 56, 1, 247, 5)), (100, (2, 2, 0, 8, 0)), (102, (2, 2, 0, 9, 0)), (104, (1, 2, 0, 1, 0)), (105, (1, 2, 0, 2, 0)), (106, (1, 2, 0, 3, 0)), (107, (3, 56, 1, 247, 5)), (110, (3, 27, 0, 165, 0))], [(113, (1, 0, 1, 0, 0)), (114, (2, 2, 0, 9, 0)), (116, (1, 9, 0, 0, 1)), (117, (2, 2, 0, 8, 0)), (119, (1, 2, 0, 1, 0)), (120, (1, 2, 0, 2, 0)), (121, (1, 2, 0, 3, 0)), (122, (3, 56, 1, 247, 5)), (125, (2, 2, 0, 9, 0)), (127, (2, 2, 0, 8, 0))], [(129, (1, 2, 0, 1, 0)), (130, (1, 2, 0, 2, 0)), (131, (1, 2, 0, 3, 0)), (132, (3, 56, 1, 247, 5)), (135, (3, 28, 0, 141, 0)), (138, (3, 22, 0, 165, 0)), (141, (3, 8, 1, 5, 0))], [(144, (2, 2, 0, 6, 0)), (146, (1, 0, (-1), 0, 0)), (147, (3, 24, 0, 161, 0)), (150, (2, 0, 10, 0, 0)), (152, (2, 2, 0, 8, 0)), (154, (1, 9, 0, 0, 2)), (155, (2, 2, 0, 9, 0)), (157, (1, 9, 0, 0, 0)), (158, (3, 22, 0, 163, 0))], [(161, (2, 2, 0, 6, 0)), (163, (2, 5, 0, 6, 0)), (165, (3, 8, 1, 7, 0)), (168, (3, 22, 0, 70, 0)), (171, (2, 2, 0, 4, 0)), (173, (3, 30, 0, 181, 0))], [(176, (2, 2, 0, 5, 0)), (178, (3, 22, 0, 235, 0)), (181, (2, 2, 0, 4, 0)), (183, (1, 0, 1, 0, 0)), (184, (3, 24, 0, 192, 0)), (187, (2, 2, 0, 6, 0)), (189, (3, 22, 0, 235, 0))], [(192, (2, 2, 0, 6, 0)), (194, (1, 0, (-1), 0, 0)), (195, (3, 24, 0, 202, 0)), (198, (1, 0, 0, 0, 0)), (199, (3, 22, 0, 235, 0)), (202, (2, 2, 0, 6, 0)), (204, (2, 0, 10, 0, 0)), (206, (1, 10, 0, 0, 0)), (207, (2, 2, 0, 6, 0))], [(209, (2, 0, 10, 0, 0)), (211, (1, 11, 0, 0, 0)), (212, (1, 2, 0, 1, 0)), (213, (1, 2, 0, 2, 0)), (214, (1, 2, 0, 3, 0)), (215, (3, 56, 1, 247, 5)), (218, (2, 2, 0, 6, 0)), (220, (2, 0, 10, 0, 0)), (222, (1, 11, 0, 0, 0)), (223, (2, 2, 0, 6, 0))], [(225, (2, 0, 10, 0, 0)), (227, (1, 10, 0, 0, 0)), (228, (1, 2, 0, 1, 0)), (229, (1, 2, 0, 2, 0)), (230, (1, 2, 0, 3, 0)), (231, (3, 56, 1, 247, 5)), (234, (1, 9, 0, 0, 0)), (235, (1, 62, 0, 0, 0))]]
abbrev m_R_givenBy : Nat := 249
def t_R_givenBy : List (List (Nat × pE)) := [[(0, (1, 0, 0, 0, 0)), (1, (1, 5, 0, 3, 0)), (2, (1, 0, 0, 0, 0)), (3, (2, 5, 0, 4, 0)), (5, (2, 2, 0, 4, 0)), (7, (1, 3, 0, 0, 0)), (8, (3, 38, 0, 11, 23)), (11, (3, 26, 0, 58, 0)), (14, (1, 2, 0, 3, 0)), (15, (1, 2, 0, 1, 0))], [(16, (2, 2, 0, 4, 0)), (18, (1, 9, 0, 0, 4)), (19, (1, 0, 1, 0, 0)), (20, (1, 9, 0, 0, 6)), (21, (1, 3, 0, 0, 0)), (22, (3, 39, 0, 11, 42)), (25, (2, 0, 20, 0, 0)), (27, (2, 2, 0, 4, 0)), (29, (1, 9, 0, 0, 0)), (30, (1, 43, 0, 0, 0)), (31, (1, 2, 0, 2, 0))], [(32, (3, 26, 0, 48, 0)), (35, (1, 3, 0, 0, 0)), (36, (3, 39, 0, 11, 42)), (39, (2, 0, 20, 0, 0)), (41, (2, 2, 0, 4, 0)), (43, (1, 9, 0, 0, 0)), (44, (1, 43, 0, 0, 0)), (45, (3, 22, 0, 49, 0))], [(48, (1, 2, 0, 2, 0)), (49, (1, 9, 0, 0, 2)), (50, (1, 9, 0, 0, 0)), (51, (1, 5, 0, 3, 0)), (52, (3, 8, 1, 4, 0)), (55, (3, 22, 0, 5, 0)), (58, (1, 2, 0, 3, 0)), (59, (1, 62, 0, 0, 0))]]
abbrev m_R_food : Nat := 250
def t_R_food : List (List (Nat × pE)) := [[(0, (1, 3, 0, 0, 0)), (1, (1, 0, 0, 0, 0)), (2, (3, 41, 0, 11, 0)), (5, (1, 3, 0, 0, 0)), (6, (1, 2, 0, 1, 0)), (7, (1, 0, 1, 0, 0)), (8, (3, 55, 1, 221, 3)), (11, (3, 29, 0, 53, 0)), (14, (1, 3, 0, 0, 0)), (15, (1, 2, 0, 2, 0))], [(16, (3, 31, 0, 44, 0)), (19, (1, 2, 0, 2, 0)), (20, (1, 0, 1, 0, 0)), (21, (1, 3, 0, 0, 0)), (22, (3, 38, 0, 11, 23)), (25, (1, 9, 0, 0, 3)), (26, (3, 26, 0, 44, 0)), (29, (1, 2, 0, 3, 0)), (30, (1, 0, 0, 0, 0)), (31, (3, 0, 999, 0, 0))], [(34, (3, 56, 1, 162, 3)), (37, (3, 29, 0, 44, 0)), (40, (1, 0, 1, 0, 0)), (41, (3, 22, 0, 45, 0)), (44, (1, 0, 0, 0, 0)), (45, (1, 0, 2, 0, 0)), (46, (1, 0, 1, 0, 0)), (47, (3, 55, 1, 161, 4))], [(50, (3, 30, 0, 55, 0)), (53, (1, 0, 0, 0, 0)), (54, (1, 62, 0, 0, 0)), (55, (2, 0, 99, 0, 0)), (57, (2, 5, 0, 4, 0)), (59, (1, 3, 0, 0, 0)), (60, (1, 2, 0, 2, 0)), (61, (2, 2, 0, 4, 0)), (63, (3, 55, 1, 249, 3))], [(66, (1, 2, 0, 3, 0)), (67, (3, 28, 0, 76, 0)), (70, (3, 8, (-1), 4, 0)), (73, (3, 22, 0, 59, 0)), (76, (1, 2, 0, 2, 0)), (77, (1, 2, 0, 1, 0)), (78, (1, 9, 0, 0, 4)), (79, (1, 0, 1, 0, 0))], [(80, (1, 9, 0, 0, 6)), (81, (3, 30, 0, 86, 0)), (84, (1, 0, 0, 0, 0)), (85, (1, 62, 0, 0, 0)), (86, (1, 3, 0, 0, 0)), (87, (3, 39, 0, 11, 42)), (90, (2, 0, 20, 0, 0)), (92, (1, 2, 0, 1, 0)), (93, (1, 9, 0, 0, 0)), (94, (1, 43, 0, 0, 0)), (95, (2, 2, 0, 4, 0))], [(97, (3, 26, 0, 112, 0)), (100, (1, 3, 0, 0, 0)), (101, (3, 39, 0, 11, 42)), (104, (2, 0, 20, 0, 0)), (106, (1, 2, 0, 1, 0)), (107, (1, 9, 0, 0, 0)), (108, (1, 43, 0, 0, 0)), (109, (3, 22, 0, 114, 0))], [(112, (2, 2, 0, 4, 0)), (114, (1, 62, 0, 0, 0))]]
abbrev m_R_darkest : Nat := 251
def t_R_darkest : List (List (Nat × pE)) := [[(0, (1, 3, 0, 0, 0)), (1, (1, 0, 0, 0, 0)), (2, (3, 41, 0, 11, 0)), (5, (1, 3, 0, 0, 0)), (6, (1, 2, 0, 1, 0)), (7, (1, 0, 0, 0, 0)), (8, (1, 0, 1, 0, 0)), (9, (3, 56, 1, 162, 3)), (12, (1, 0, 1, 0, 0)), (13, (1, 0, 1, 0, 0)), (14, (3, 55, 1, 161, 4))], [(17, (3, 30, 0, 22, 0)), (20, (1, 0, 0, 0, 0)), (21, (1, 62, 0, 0, 0)), (22, (1, 3, 0, 0, 0)), (23, (3, 55, 0, 202, 1)), (26, (1, 0, (-1), 0, 0)), (27, (1, 5, 0, 2, 0)), (28, (1, 0, 0, 0, 0)), (29, (1, 5, 0, 3, 0)), (30, (1, 0, 0, 0, 0)), (31, (2, 5, 0, 4, 0))], [(33, (2, 2, 0, 4, 0)), (35, (1, 3, 0, 0, 0)), (36, (3, 38, 0, 11, 22)), (39, (3, 26, 0, 71, 0)), (42, (1, 3, 0, 0, 0)), (43, (2, 2, 0, 4, 0)), (45, (3, 55, 1, 213, 2))], [(48, (1, 2, 0, 3, 0)), (49, (3, 27, 0, 55, 0)), (52, (3, 22, 0, 65, 0)), (55, (2, 2, 0, 4, 0)), (57, (1, 5, 0, 2, 0)), (58, (1, 3, 0, 0, 0)), (59, (2, 2, 0, 4, 0)), (61, (3, 55, 1, 213, 2))], [(64, (1, 5, 0, 3, 0)), (65, (3, 8, 1, 4, 0)), (68, (3, 22, 0, 33, 0)), (71, (1, 2, 0, 1, 0)), (72, (3, 29, 0, 80, 0)), (75, (1, 2, 0, 2, 0)), (76, (1, 0, (-1), 0, 0)), (77, (3, 24, 0, 84, 0))], [(80, (1, 2, 0, 2, 0)), (81, (3, 22, 0, 85, 0)), (84, (1, 2, 0, 3, 0)), (85, (1, 62, 0, 0, 0))]]
abbrev m_R_stillest : Nat := 252
def t_R_stillest : List (List (Nat × pE)) := [[(0, (1, 3, 0, 0, 0)), (1, (1, 0, 0, 0, 0)), (2, (3, 41, 0, 11, 0)), (5, (1, 3, 0, 0, 0)), (6, (1, 2, 0, 1, 0)), (7, (1, 0, 0, 0, 0)), (8, (1, 0, 1, 0, 0)), (9, (3, 56, 1, 162, 3)), (12, (1, 0, 1, 0, 0)), (13, (1, 0, 1, 0, 0)), (14, (3, 55, 1, 161, 4))], [(17, (3, 30, 0, 22, 0)), (20, (1, 0, 0, 0, 0)), (21, (1, 62, 0, 0, 0)), (22, (1, 0, (-1), 0, 0)), (23, (1, 5, 0, 2, 0)), (24, (1, 0, 0, 0, 0)), (25, (1, 5, 0, 3, 0)), (26, (1, 2, 0, 3, 0)), (27, (1, 3, 0, 0, 0)), (28, (3, 38, 0, 11, 23)), (31, (3, 26, 0, 81, 0))], [(34, (1, 3, 0, 0, 0)), (35, (3, 39, 0, 11, 42)), (38, (2, 0, 8, 0, 0)), (40, (1, 2, 0, 3, 0)), (41, (1, 9, 0, 0, 0)), (42, (1, 43, 0, 0, 0)), (43, (1, 0, (-1), 0, 0)), (44, (3, 23, 0, 75, 0)), (47, (1, 2, 0, 2, 0))], [(48, (1, 0, (-1), 0, 0)), (49, (3, 23, 0, 73, 0)), (52, (1, 3, 0, 0, 0)), (53, (3, 39, 0, 11, 42)), (56, (2, 0, 14, 0, 0)), (58, (1, 2, 0, 3, 0)), (59, (1, 9, 0, 0, 0)), (60, (1, 43, 0, 0, 0)), (61, (1, 3, 0, 0, 0)), (62, (3, 39, 0, 11, 42))], [(65, (2, 0, 14, 0, 0)), (67, (1, 2, 0, 2, 0)), (68, (1, 9, 0, 0, 0)), (69, (1, 43, 0, 0, 0)), (70, (3, 28, 0, 75, 0)), (73, (1, 2, 0, 3, 0)), (74, (1, 5, 0, 2, 0)), (75, (3, 8, 1, 3, 0)), (78, (3, 22, 0, 26, 0))], [(81, (1, 2, 0, 1, 0)), (82, (3, 29, 0, 90, 0)), (85, (1, 2, 0, 2, 0)), (86, (1, 0, (-1), 0, 0)), (87, (3, 24, 0, 94, 0)), (90, (1, 2, 0, 2, 0)), (91, (3, 22, 0, 103, 0)), (94, (1, 3, 0, 0, 0)), (95, (3, 39, 0, 11, 42))], [(98, (2, 0, 14, 0, 0)), (100, (1, 2, 0, 2, 0)), (101, (1, 9, 0, 0, 0)), (102, (1, 43, 0, 0, 0)), (103, (1, 62, 0, 0, 0))]]
abbrev m_R_stains : Nat := 253
def t_R_stains : List (List (Nat × pE)) := [[(0, (1, 3, 0, 0, 0)), (1, (1, 0, 0, 0, 0)), (2, (3, 41, 0, 11, 0)), (5, (1, 3, 0, 0, 0)), (6, (1, 2, 0, 1, 0)), (7, (1, 0, 0, 0, 0)), (8, (1, 0, 1, 0, 0)), (9, (3, 56, 1, 162, 3)), (12, (1, 0, 1, 0, 0)), (13, (1, 0, 1, 0, 0)), (14, (3, 55, 1, 161, 4))], [(17, (3, 30, 0, 22, 0)), (20, (1, 0, 0, 0, 0)), (21, (1, 62, 0, 0, 0)), (22, (1, 0, 0, 0, 0)), (23, (1, 5, 0, 2, 0)), (24, (1, 0, (-1), 0, 0)), (25, (1, 5, 0, 3, 0)), (26, (1, 0, 0, 0, 0)), (27, (2, 5, 0, 4, 0)), (29, (2, 2, 0, 4, 0)), (31, (1, 3, 0, 0, 0))], [(32, (3, 38, 0, 11, 23)), (35, (3, 26, 0, 172, 0)), (38, (2, 2, 0, 4, 0)), (40, (1, 0, 1, 0, 0)), (41, (1, 9, 0, 0, 0)), (42, (2, 5, 0, 5, 0)), (44, (2, 2, 0, 5, 0)), (46, (1, 3, 0, 0, 0)), (47, (3, 38, 0, 11, 23))], [(50, (3, 26, 0, 166, 0)), (53, (1, 0, 0, 0, 0)), (54, (2, 5, 0, 6, 0)), (56, (1, 0, 0, 0, 0)), (57, (2, 5, 0, 7, 0)), (59, (2, 2, 0, 7, 0)), (61, (1, 3, 0, 0, 0)), (62, (3, 38, 0, 11, 22))], [(65, (3, 26, 0, 124, 0)), (68, (2, 2, 0, 6, 0)), (70, (3, 30, 0, 111, 0)), (73, (1, 3, 0, 0, 0)), (74, (3, 39, 0, 11, 42)), (77, (2, 0, 26, 0, 0)), (79, (2, 0, 6, 0, 0))], [(81, (2, 2, 0, 7, 0)), (83, (1, 9, 0, 0, 2)), (84, (1, 9, 0, 0, 0)), (85, (2, 2, 0, 4, 0)), (87, (1, 9, 0, 0, 0)), (88, (1, 43, 0, 0, 0)), (89, (3, 34, 0, 115, 0)), (92, (1, 3, 0, 0, 0)), (93, (3, 39, 0, 11, 42))], [(96, (2, 0, 26, 0, 0)), (98, (2, 0, 6, 0, 0)), (100, (2, 2, 0, 7, 0)), (102, (1, 9, 0, 0, 2)), (103, (1, 9, 0, 0, 0)), (104, (2, 2, 0, 5, 0)), (106, (1, 9, 0, 0, 0)), (107, (1, 43, 0, 0, 0)), (108, (3, 34, 0, 115, 0)), (111, (1, 0, 1, 0, 0))], [(112, (3, 22, 0, 116, 0)), (115, (1, 0, 0, 0, 0)), (116, (2, 5, 0, 6, 0)), (118, (3, 8, 1, 7, 0)), (121, (3, 22, 0, 59, 0)), (124, (1, 2, 0, 2, 0)), (125, (2, 2, 0, 6, 0)), (127, (3, 29, 0, 134, 0))], [(130, (1, 0, 1, 0, 0)), (131, (3, 22, 0, 135, 0)), (134, (1, 0, 0, 0, 0)), (135, (1, 9, 0, 0, 0)), (136, (1, 5, 0, 2, 0)), (137, (2, 2, 0, 6, 0)), (139, (3, 29, 0, 158, 0)), (142, (1, 2, 0, 3, 0)), (143, (1, 0, (-1), 0, 0))], [(144, (3, 24, 0, 158, 0)), (147, (2, 0, 10, 0, 0)), (149, (2, 2, 0, 4, 0)), (151, (1, 9, 0, 0, 2)), (152, (2, 2, 0, 5, 0)), (154, (1, 9, 0, 0, 0)), (155, (3, 22, 0, 159, 0)), (158, (1, 2, 0, 3, 0)), (159, (1, 5, 0, 3, 0))], [(160, (3, 8, 1, 5, 0)), (163, (3, 22, 0, 44, 0)), (166, (3, 8, 1, 4, 0)), (169, (3, 22, 0, 29, 0)), (172, (1, 2, 0, 1, 0)), (173, (3, 30, 0, 180, 0))], [(176, (1, 2, 0, 2, 0)), (177, (3, 22, 0, 181, 0)), (180, (1, 2, 0, 3, 0)), (181, (1, 62, 0, 0, 0))]]
abbrev m_R_hungriest : Nat := 254
def t_R_hungriest : List (List (Nat × pE)) := [[(0, (1, 3, 0, 0, 0)), (1, (1, 0, 0, 0, 0)), (2, (3, 41, 0, 11, 0)), (5, (1, 3, 0, 0, 0)), (6, (1, 2, 0, 1, 0)), (7, (1, 0, 0, 0, 0)), (8, (1, 0, 1, 0, 0)), (9, (3, 56, 1, 162, 3)), (12, (1, 0, 1, 0, 0)), (13, (1, 0, 1, 0, 0)), (14, (3, 55, 1, 161, 4))], [(17, (3, 30, 0, 22, 0)), (20, (1, 0, 0, 0, 0)), (21, (1, 62, 0, 0, 0)), (22, (1, 0, (-1), 0, 0)), (23, (1, 5, 0, 2, 0)), (24, (1, 0, 0, 0, 0)), (25, (1, 5, 0, 3, 0)), (26, (1, 2, 0, 3, 0)), (27, (1, 3, 0, 0, 0)), (28, (3, 38, 0, 11, 23)), (31, (3, 26, 0, 68, 0))], [(34, (1, 2, 0, 2, 0)), (35, (1, 0, (-1), 0, 0)), (36, (3, 23, 0, 60, 0)), (39, (1, 3, 0, 0, 0)), (40, (3, 39, 0, 11, 42)), (43, (2, 0, 20, 0, 0)), (45, (1, 2, 0, 3, 0)), (46, (1, 9, 0, 0, 0)), (47, (1, 43, 0, 0, 0))], [(48, (1, 3, 0, 0, 0)), (49, (3, 39, 0, 11, 42)), (52, (2, 0, 20, 0, 0)), (54, (1, 2, 0, 2, 0)), (55, (1, 9, 0, 0, 0)), (56, (1, 43, 0, 0, 0)), (57, (3, 28, 0, 62, 0)), (60, (1, 2, 0, 3, 0)), (61, (1, 5, 0, 2, 0)), (62, (3, 8, 1, 3, 0))], [(65, (3, 22, 0, 26, 0)), (68, (1, 2, 0, 1, 0)), (69, (3, 29, 0, 77, 0)), (72, (1, 2, 0, 2, 0)), (73, (1, 0, (-1), 0, 0)), (74, (3, 24, 0, 81, 0)), (77, (1, 2, 0, 2, 0)), (78, (3, 22, 0, 90, 0))], [(81, (1, 3, 0, 0, 0)), (82, (3, 39, 0, 11, 42)), (85, (2, 0, 20, 0, 0)), (87, (1, 2, 0, 2, 0)), (88, (1, 9, 0, 0, 0)), (89, (1, 43, 0, 0, 0)), (90, (1, 62, 0, 0, 0))]]
abbrev m_R_brightest : Nat := 255
def t_R_brightest : List (List (Nat × pE)) := [[(0, (1, 3, 0, 0, 0)), (1, (1, 0, 0, 0, 0)), (2, (3, 41, 0, 11, 0)), (5, (1, 3, 0, 0, 0)), (6, (1, 2, 0, 1, 0)), (7, (1, 0, 0, 0, 0)), (8, (1, 0, 1, 0, 0)), (9, (3, 56, 1, 162, 3)), (12, (1, 0, 1, 0, 0)), (13, (1, 0, 1, 0, 0)), (14, (3, 55, 1, 161, 4))], [(17, (3, 30, 0, 22, 0)), (20, (1, 0, 0, 0, 0)), (21, (1, 62, 0, 0, 0)), (22, (1, 0, (-1), 0, 0)), (23, (1, 5, 0, 2, 0)), (24, (1, 0, 0, 0, 0)), (25, (1, 5, 0, 3, 0)), (26, (1, 2, 0, 3, 0)), (27, (1, 3, 0, 0, 0)), (28, (3, 38, 0, 11, 22)), (31, (3, 26, 0, 66, 0))], [(34, (1, 2, 0, 2, 0)), (35, (1, 0, (-1), 0, 0)), (36, (3, 23, 0, 58, 0)), (39, (1, 3, 0, 0, 0)), (40, (3, 39, 0, 11, 42)), (43, (1, 0, 0, 0, 0)), (44, (1, 2, 0, 3, 0)), (45, (1, 9, 0, 0, 0)), (46, (1, 43, 0, 0, 0)), (47, (1, 3, 0, 0, 0))], [(48, (3, 39, 0, 11, 42)), (51, (1, 0, 0, 0, 0)), (52, (1, 2, 0, 2, 0)), (53, (1, 9, 0, 0, 0)), (54, (1, 43, 0, 0, 0)), (55, (3, 28, 0, 60, 0)), (58, (1, 2, 0, 3, 0)), (59, (1, 5, 0, 2, 0)), (60, (3, 8, 1, 3, 0)), (63, (3, 22, 0, 26, 0))], [(66, (1, 2, 0, 1, 0)), (67, (3, 29, 0, 75, 0)), (70, (1, 2, 0, 2, 0)), (71, (1, 0, (-1), 0, 0)), (72, (3, 24, 0, 79, 0)), (75, (1, 2, 0, 2, 0)), (76, (3, 22, 0, 87, 0)), (79, (1, 3, 0, 0, 0))], [(80, (3, 39, 0, 11, 42)), (83, (1, 0, 0, 0, 0)), (84, (1, 2, 0, 2, 0)), (85, (1, 9, 0, 0, 0)), (86, (1, 43, 0, 0, 0)), (87, (1, 62, 0, 0, 0))]]
abbrev m_R_empty : Nat := 256
def t_R_empty : List (List (Nat × pE)) := [[(0, (1, 3, 0, 0, 0)), (1, (1, 0, 0, 0, 0)), (2, (3, 41, 0, 11, 0)), (5, (1, 3, 0, 0, 0)), (6, (1, 2, 0, 1, 0)), (7, (1, 0, 0, 0, 0)), (8, (1, 0, 1, 0, 0)), (9, (3, 56, 1, 162, 3)), (12, (1, 0, 1, 0, 0)), (13, (1, 0, 1, 0, 0)), (14, (3, 55, 1, 161, 4))], [(17, (3, 30, 0, 22, 0)), (20, (1, 0, 0, 0, 0)), (21, (1, 62, 0, 0, 0)), (22, (1, 3, 0, 0, 0)), (23, (3, 55, 0, 202, 1)), (26, (1, 0, 0, 0, 0)), (27, (1, 5, 0, 2, 0)), (28, (1, 0, 0, 0, 0)), (29, (1, 5, 0, 3, 0)), (30, (1, 2, 0, 3, 0)), (31, (1, 3, 0, 0, 0))], [(32, (3, 38, 0, 11, 22)), (35, (3, 26, 0, 78, 0)), (38, (1, 2, 0, 2, 0)), (39, (1, 2, 0, 1, 0)), (40, (3, 30, 0, 55, 0)), (43, (1, 3, 0, 0, 0)), (44, (1, 2, 0, 3, 0)), (45, (3, 55, 1, 207, 2))], [(48, (1, 0, (-1), 0, 0)), (49, (3, 24, 0, 69, 0)), (52, (3, 22, 0, 63, 0)), (55, (1, 3, 0, 0, 0)), (56, (1, 2, 0, 3, 0)), (57, (3, 55, 1, 213, 2)), (60, (3, 30, 0, 69, 0)), (63, (1, 0, 1, 0, 0))], [(64, (1, 2, 0, 3, 0)), (65, (1, 9, 0, 0, 3)), (66, (3, 22, 0, 70, 0)), (69, (1, 0, 0, 0, 0)), (70, (1, 9, 0, 0, 7)), (71, (1, 5, 0, 2, 0)), (72, (3, 8, 1, 3, 0)), (75, (3, 22, 0, 30, 0)), (78, (1, 2, 0, 2, 0)), (79, (1, 62, 0, 0, 0))]]
abbrev m_R_rising : Nat := 257
def t_R_rising : List (List (Nat × pE)) := [[(0, (1, 3, 0, 0, 0)), (1, (1, 0, 0, 0, 0)), (2, (3, 41, 0, 11, 0)), (5, (1, 3, 0, 0, 0)), (6, (1, 2, 0, 1, 0)), (7, (1, 0, 1, 0, 0)), (8, (3, 55, 1, 221, 3)), (11, (3, 30, 0, 16, 0)), (14, (1, 0, 0, 0, 0)), (15, (1, 62, 0, 0, 0))], [(16, (1, 3, 0, 0, 0)), (17, (3, 39, 0, 11, 42)), (20, (2, 0, 8, 0, 0)), (22, (1, 2, 0, 1, 0)), (23, (1, 9, 0, 0, 0)), (24, (1, 43, 0, 0, 0)), (25, (1, 0, (-1), 0, 0)), (26, (3, 24, 0, 31, 0)), (29, (1, 0, (-1), 0, 0)), (30, (1, 62, 0, 0, 0)), (31, (1, 3, 0, 0, 0))], [(32, (3, 39, 0, 11, 15)), (35, (1, 2, 0, 1, 0)), (36, (1, 43, 0, 0, 0)), (37, (1, 3, 0, 0, 0)), (38, (3, 39, 0, 11, 42)), (41, (2, 0, 20, 0, 0)), (43, (1, 2, 0, 1, 0)), (44, (1, 9, 0, 0, 0)), (45, (1, 43, 0, 0, 0)), (46, (1, 9, 0, 0, 1)), (47, (1, 0, 1, 0, 0))], [(48, (1, 9, 0, 0, 0)), (49, (1, 5, 0, 2, 0)), (50, (1, 2, 0, 2, 0)), (51, (1, 0, 1, 0, 0)), (52, (3, 26, 0, 59, 0)), (55, (1, 0, 1, 0, 0)), (56, (3, 22, 0, 60, 0)), (59, (1, 2, 0, 2, 0)), (60, (1, 62, 0, 0, 0))]]
abbrev m_R_gains : Nat := 258
def t_R_gains : List (List (Nat × pE)) := [[(0, (1, 3, 0, 0, 0)), (1, (1, 0, 0, 0, 0)), (2, (3, 41, 0, 11, 0)), (5, (1, 3, 0, 0, 0)), (6, (1, 2, 0, 1, 0)), (7, (1, 0, 1, 0, 0)), (8, (3, 55, 1, 221, 3)), (11, (3, 29, 0, 23, 0)), (14, (1, 3, 0, 0, 0)), (15, (1, 2, 0, 2, 0))], [(16, (1, 0, 1, 0, 0)), (17, (3, 55, 1, 220, 3)), (20, (3, 30, 0, 25, 0)), (23, (1, 0, 0, 0, 0)), (24, (1, 62, 0, 0, 0)), (25, (1, 3, 0, 0, 0)), (26, (3, 55, 0, 202, 1)), (29, (1, 3, 0, 0, 0)), (30, (3, 39, 0, 11, 43))], [(33, (2, 0, 8, 0, 0)), (35, (1, 2, 0, 1, 0)), (36, (1, 9, 0, 0, 0)), (37, (1, 43, 0, 0, 0)), (38, (1, 0, (-1), 0, 0)), (39, (3, 23, 0, 51, 0)), (42, (1, 3, 0, 0, 0)), (43, (1, 2, 0, 2, 0)), (44, (3, 55, 1, 207, 2)), (47, (1, 0, (-1), 0, 0))], [(48, (3, 23, 0, 54, 0)), (51, (2, 0, (-100), 0, 0)), (53, (1, 62, 0, 0, 0)), (54, (1, 3, 0, 0, 0)), (55, (1, 3, 0, 0, 0)), (56, (3, 39, 0, 11, 43)), (59, (1, 0, 0, 0, 0)), (60, (1, 2, 0, 2, 0)), (61, (1, 9, 0, 0, 0)), (62, (1, 43, 0, 0, 0)), (63, (1, 3, 0, 0, 0))], [(64, (3, 39, 0, 11, 14)), (67, (1, 2, 0, 1, 0)), (68, (1, 43, 0, 0, 0)), (69, (1, 0, 0, 0, 0)), (70, (1, 3, 0, 0, 0)), (71, (3, 39, 0, 11, 43)), (74, (2, 0, 20, 0, 0)), (76, (1, 2, 0, 1, 0)), (77, (1, 9, 0, 0, 0)), (78, (1, 43, 0, 0, 0)), (79, (1, 2, 0, 2, 0))], [(80, (1, 2, 0, 1, 0)), (81, (1, 3, 0, 0, 0)), (82, (3, 55, 1, 204, 1)), (85, (3, 56, 1, 205, 1)), (88, (1, 0, 1, 0, 0)), (89, (1, 9, 0, 0, 1)), (90, (1, 3, 0, 0, 0)), (91, (3, 39, 0, 11, 43)), (94, (2, 0, 75, 0, 0))], [(96, (1, 43, 0, 0, 0)), (97, (3, 55, 1, 203, 9)), (100, (1, 3, 0, 0, 0)), (101, (1, 2, 0, 1, 0)), (102, (3, 55, 1, 206, 2)), (105, (1, 9, 0, 0, 1)), (106, (1, 62, 0, 0, 0))]]
abbrev m_R_absent : Nat := 259
def t_R_absent : List (List (Nat × pE)) := [[(0, (1, 3, 0, 0, 0)), (1, (1, 0, 0, 0, 0)), (2, (3, 41, 0, 11, 0)), (5, (1, 3, 0, 0, 0)), (6, (3, 55, 0, 202, 1)), (9, (1, 0, 0, 0, 0)), (10, (1, 5, 0, 1, 0)), (11, (1, 0, 0, 0, 0)), (12, (1, 5, 0, 2, 0)), (13, (1, 2, 0, 2, 0)), (14, (1, 3, 0, 0, 0)), (15, (3, 38, 0, 11, 23))], [(18, (3, 26, 0, 47, 0)), (21, (1, 2, 0, 1, 0)), (22, (1, 3, 0, 0, 0)), (23, (1, 2, 0, 2, 0)), (24, (2, 0, 7, 0, 0)), (26, (3, 55, 1, 223, 3)), (29, (3, 30, 0, 38, 0))], [(32, (1, 0, 1, 0, 0)), (33, (1, 2, 0, 2, 0)), (34, (1, 9, 0, 0, 3)), (35, (3, 22, 0, 39, 0)), (38, (1, 0, 0, 0, 0)), (39, (1, 9, 0, 0, 7)), (40, (1, 5, 0, 1, 0)), (41, (3, 8, 1, 2, 0)), (44, (3, 22, 0, 13, 0)), (47, (1, 2, 0, 1, 0))], [(48, (1, 62, 0, 0, 0))]]
abbrev m_R_crowd : Nat := 260
def t_R_crowd : List (List (Nat × pE)) := [[(0, (1, 3, 0, 0, 0)), (1, (1, 0, 0, 0, 0)), (2, (3, 41, 0, 11, 0)), (5, (1, 3, 0, 0, 0)), (6, (1, 2, 0, 1, 0)), (7, (1, 0, 1, 0, 0)), (8, (3, 55, 1, 220, 3)), (11, (3, 30, 0, 16, 0)), (14, (1, 0, 0, 0, 0)), (15, (1, 62, 0, 0, 0))], [(16, (1, 0, 0, 0, 0)), (17, (1, 5, 0, 2, 0)), (18, (1, 0, 0, 0, 0)), (19, (1, 5, 0, 3, 0)), (20, (1, 2, 0, 3, 0)), (21, (1, 3, 0, 0, 0)), (22, (3, 38, 0, 11, 23)), (25, (3, 26, 0, 59, 0)), (28, (1, 2, 0, 2, 0)), (29, (1, 3, 0, 0, 0)), (30, (3, 39, 0, 11, 42))], [(33, (2, 0, 26, 0, 0)), (35, (2, 0, 6, 0, 0)), (37, (1, 2, 0, 1, 0)), (38, (1, 9, 0, 0, 2)), (39, (1, 9, 0, 0, 0)), (40, (1, 2, 0, 3, 0)), (41, (1, 9, 0, 0, 0)), (42, (1, 43, 0, 0, 0)), (43, (3, 34, 0, 50, 0)), (46, (1, 0, 1, 0, 0)), (47, (3, 22, 0, 51, 0))], [(50, (1, 0, 0, 0, 0)), (51, (1, 9, 0, 0, 0)), (52, (1, 5, 0, 2, 0)), (53, (3, 8, 1, 3, 0)), (56, (3, 22, 0, 20, 0)), (59, (1, 2, 0, 2, 0)), (60, (1, 62, 0, 0, 0))]]
abbrev m_R_need : Nat := 261
def t_R_need : List (List (Nat × pE)) := [[(0, (1, 3, 0, 0, 0)), (1, (1, 0, 0, 0, 0)), (2, (3, 41, 0, 11, 0)), (5, (1, 3, 0, 0, 0)), (6, (1, 2, 0, 1, 0)), (7, (1, 0, 0, 0, 0)), (8, (3, 0, 400, 0, 0)), (11, (3, 56, 1, 162, 3)), (14, (1, 0, 1, 0, 0)), (15, (1, 0, 1, 0, 0))], [(16, (3, 55, 1, 161, 4)), (19, (3, 30, 0, 24, 0)), (22, (1, 0, 0, 0, 0)), (23, (1, 62, 0, 0, 0)), (24, (1, 0, 0, 0, 0)), (25, (1, 5, 0, 2, 0)), (26, (1, 0, 0, 0, 0)), (27, (1, 5, 0, 3, 0)), (28, (1, 2, 0, 3, 0)), (29, (1, 3, 0, 0, 0)), (30, (3, 38, 0, 11, 23))], [(33, (3, 26, 0, 68, 0)), (36, (1, 2, 0, 2, 0)), (37, (1, 3, 0, 0, 0)), (38, (3, 39, 0, 11, 42)), (41, (2, 0, 8, 0, 0)), (43, (1, 2, 0, 3, 0)), (44, (1, 9, 0, 0, 0)), (45, (1, 43, 0, 0, 0)), (46, (1, 0, (-1), 0, 0)), (47, (3, 24, 0, 54, 0))], [(50, (1, 0, 0, 0, 0)), (51, (3, 22, 0, 60, 0)), (54, (1, 3, 0, 0, 0)), (55, (1, 2, 0, 3, 0)), (56, (1, 2, 0, 1, 0)), (57, (3, 55, 1, 234, 3)), (60, (1, 9, 0, 0, 0)), (61, (1, 5, 0, 2, 0)), (62, (3, 8, 1, 3, 0))], [(65, (3, 22, 0, 28, 0)), (68, (1, 2, 0, 2, 0)), (69, (1, 62, 0, 0, 0))]]
abbrev m_R_lead : Nat := 262
def t_R_lead : List (List (Nat × pE)) := [[(0, (1, 3, 0, 0, 0)), (1, (1, 0, 0, 0, 0)), (2, (3, 41, 0, 11, 0)), (5, (1, 3, 0, 0, 0)), (6, (1, 2, 0, 1, 0)), (7, (1, 0, 1, 0, 0)), (8, (3, 55, 1, 220, 3)), (11, (3, 30, 0, 16, 0)), (14, (1, 0, 0, 0, 0)), (15, (1, 62, 0, 0, 0))], [(16, (1, 0, 0, 0, 0)), (17, (1, 5, 0, 2, 0)), (18, (1, 0, 0, 0, 0)), (19, (1, 5, 0, 3, 0)), (20, (1, 0, 0, 0, 0)), (21, (2, 5, 0, 4, 0)), (23, (2, 2, 0, 4, 0)), (25, (1, 3, 0, 0, 0)), (26, (3, 38, 0, 11, 23)), (29, (3, 26, 0, 91, 0))], [(32, (1, 3, 0, 0, 0)), (33, (3, 39, 0, 11, 42)), (36, (2, 0, 26, 0, 0)), (38, (2, 0, 6, 0, 0)), (40, (1, 2, 0, 1, 0)), (41, (1, 9, 0, 0, 2)), (42, (1, 9, 0, 0, 0)), (43, (2, 2, 0, 4, 0)), (45, (1, 9, 0, 0, 0)), (46, (1, 43, 0, 0, 0)), (47, (2, 5, 0, 5, 0))], [(49, (2, 2, 0, 5, 0)), (51, (1, 2, 0, 2, 0)), (52, (3, 28, 0, 59, 0)), (55, (1, 2, 0, 2, 0)), (56, (3, 22, 0, 71, 0)), (59, (2, 2, 0, 5, 0)), (61, (1, 2, 0, 3, 0)), (62, (3, 28, 0, 70, 0))], [(65, (2, 2, 0, 5, 0)), (67, (3, 22, 0, 71, 0)), (70, (1, 2, 0, 3, 0)), (71, (1, 5, 0, 3, 0)), (72, (2, 2, 0, 5, 0)), (74, (1, 2, 0, 2, 0)), (75, (3, 28, 0, 83, 0)), (78, (2, 2, 0, 5, 0))], [(80, (3, 22, 0, 84, 0)), (83, (1, 2, 0, 2, 0)), (84, (1, 5, 0, 2, 0)), (85, (3, 8, 1, 4, 0)), (88, (3, 22, 0, 23, 0)), (91, (1, 2, 0, 2, 0)), (92, (1, 2, 0, 3, 0)), (93, (1, 9, 0, 0, 1)), (94, (1, 62, 0, 0, 0))]]
abbrev m_R_draws : Nat := 263
def t_R_draws : List (List (Nat × pE)) := [[(0, (1, 3, 0, 0, 0)), (1, (1, 3, 0, 0, 0)), (2, (3, 38, 0, 11, 52)), (5, (3, 0, 1103515245, 0, 0)), (8, (1, 9, 0, 0, 2)), (9, (3, 0, 12345, 0, 0)), (12, (1, 9, 0, 0, 0)), (13, (3, 41, 0, 11, 52))], [(16, (1, 3, 0, 0, 0)), (17, (3, 38, 0, 11, 52)), (20, (2, 0, 16, 0, 0)), (22, (1, 9, 0, 0, 4)), (23, (3, 0, 32767, 0, 0)), (26, (1, 9, 0, 0, 6)), (27, (1, 2, 0, 1, 0)), (28, (1, 11, 0, 0, 0)), (29, (1, 62, 0, 0, 0))]]
abbrev m_R_seasonGoes : Nat := 264
def t_R_seasonGoes : List (List (Nat × pE)) := [[(0, (1, 3, 0, 0, 0)), (1, (3, 55, 0, 202, 1)), (4, (1, 3, 0, 0, 0)), (5, (1, 2, 0, 1, 0)), (6, (3, 41, 0, 11, 52)), (9, (1, 0, 0, 0, 0)), (10, (2, 5, 0, 4, 0)), (12, (2, 2, 0, 4, 0)), (14, (1, 2, 0, 3, 0)), (15, (3, 26, 0, 84, 0))], [(18, (1, 3, 0, 0, 0)), (19, (3, 38, 0, 11, 23)), (22, (3, 34, 0, 74, 0)), (25, (1, 3, 0, 0, 0)), (26, (1, 3, 0, 0, 0)), (27, (3, 38, 0, 11, 23)), (30, (3, 55, 1, 263, 2))], [(33, (2, 5, 0, 5, 0)), (35, (1, 3, 0, 0, 0)), (36, (3, 38, 0, 11, 22)), (39, (3, 34, 0, 57, 0)), (42, (1, 3, 0, 0, 0)), (43, (2, 2, 0, 5, 0)), (45, (1, 3, 0, 0, 0)), (46, (1, 3, 0, 0, 0)), (47, (3, 38, 0, 11, 22))], [(50, (3, 55, 1, 263, 2)), (53, (3, 55, 1, 209, 3)), (56, (1, 20, 0, 0, 0)), (57, (1, 3, 0, 0, 0)), (58, (2, 0, 16, 0, 0)), (60, (3, 55, 1, 263, 2)), (63, (1, 2, 0, 2, 0))], [(64, (3, 26, 0, 74, 0)), (67, (1, 3, 0, 0, 0)), (68, (2, 2, 0, 5, 0)), (70, (3, 55, 1, 210, 2)), (73, (1, 20, 0, 0, 0)), (74, (1, 3, 0, 0, 0)), (75, (3, 55, 0, 212, 1)), (78, (3, 8, 1, 4, 0))], [(81, (3, 22, 0, 12, 0)), (84, (1, 65, 0, 0, 0))]]
abbrev m_R_isSeason : Nat := 265
def t_R_isSeason : List (List (Nat × pE)) := [[(0, (1, 2, 0, 0, 0)), (1, (3, 31, 0, 25, 0)), (4, (1, 2, 0, 0, 0)), (5, (2, 0, 16, 0, 0)), (7, (3, 27, 0, 25, 0)), (10, (1, 2, 0, 1, 0)), (11, (1, 0, 1, 0, 0)), (12, (3, 25, 0, 25, 0)), (15, (1, 2, 0, 1, 0))], [(16, (2, 0, 96, 0, 0)), (18, (3, 27, 0, 25, 0)), (21, (1, 0, 1, 0, 0)), (22, (3, 22, 0, 26, 0)), (25, (1, 0, 0, 0, 0)), (26, (1, 66, 0, 0, 0))]]
abbrev m_R_season : Nat := 266
def t_R_season : List (List (Nat × pE)) := [[(0, (1, 3, 0, 0, 0)), (1, (1, 0, 0, 0, 0)), (2, (3, 41, 0, 11, 0)), (5, (1, 3, 0, 0, 0)), (6, (1, 2, 0, 2, 0)), (7, (1, 2, 0, 3, 0)), (8, (3, 56, 1, 265, 2)), (11, (3, 29, 0, 28, 0)), (14, (2, 2, 0, 4, 0))], [(16, (1, 0, 0, 0, 0)), (17, (1, 0, 3, 0, 0)), (18, (3, 56, 1, 162, 3)), (21, (3, 29, 0, 28, 0)), (24, (1, 0, 1, 0, 0)), (25, (3, 22, 0, 29, 0)), (28, (1, 0, 0, 0, 0)), (29, (1, 0, 1, 0, 0)), (30, (1, 0, 1, 0, 0)), (31, (3, 55, 1, 161, 4))], [(34, (3, 30, 0, 39, 0)), (37, (1, 0, 0, 0, 0)), (38, (1, 62, 0, 0, 0)), (39, (1, 3, 0, 0, 0)), (40, (1, 2, 0, 1, 0)), (41, (1, 2, 0, 2, 0)), (42, (1, 2, 0, 3, 0)), (43, (3, 55, 0, 264, 4)), (46, (2, 2, 0, 4, 0))], [(48, (3, 30, 0, 58, 0)), (51, (1, 3, 0, 0, 0)), (52, (3, 55, 1, 214, 1)), (55, (3, 22, 0, 91, 0)), (58, (2, 2, 0, 4, 0)), (60, (1, 0, 1, 0, 0)), (61, (3, 24, 0, 71, 0))], [(64, (1, 3, 0, 0, 0)), (65, (3, 55, 1, 204, 1)), (68, (3, 22, 0, 91, 0)), (71, (2, 2, 0, 4, 0)), (73, (1, 0, 2, 0, 0)), (74, (3, 24, 0, 87, 0)), (77, (1, 3, 0, 0, 0)), (78, (3, 39, 0, 11, 43))], [(81, (2, 0, 74, 0, 0)), (83, (1, 43, 0, 0, 0)), (84, (3, 22, 0, 91, 0)), (87, (1, 3, 0, 0, 0)), (88, (3, 55, 1, 216, 1)), (91, (1, 62, 0, 0, 0))]]
abbrev m_R_span : Nat := 267
def t_R_span : List (List (Nat × pE)) := [[(0, (1, 3, 0, 0, 0)), (1, (1, 0, 0, 0, 0)), (2, (3, 41, 0, 11, 0)), (5, (1, 3, 0, 0, 0)), (6, (1, 2, 0, 2, 0)), (7, (1, 0, 1, 0, 0)), (8, (2, 0, 20, 0, 0)), (10, (3, 56, 1, 162, 3)), (13, (3, 29, 0, 39, 0))], [(16, (1, 2, 0, 3, 0)), (17, (2, 2, 0, 4, 0)), (19, (3, 56, 1, 265, 2)), (22, (3, 29, 0, 39, 0)), (25, (2, 2, 0, 5, 0)), (27, (1, 0, 0, 0, 0)), (28, (1, 0, 2, 0, 0)), (29, (3, 56, 1, 162, 3))], [(32, (3, 29, 0, 39, 0)), (35, (1, 0, 1, 0, 0)), (36, (3, 22, 0, 40, 0)), (39, (1, 0, 0, 0, 0)), (40, (1, 0, 1, 0, 0)), (41, (1, 0, 1, 0, 0)), (42, (3, 55, 1, 161, 4)), (45, (3, 30, 0, 50, 0))], [(48, (1, 0, 0, 0, 0)), (49, (1, 62, 0, 0, 0)), (50, (1, 0, (-1), 0, 0)), (51, (2, 5, 0, 6, 0)), (53, (1, 0, 0, 0, 0)), (54, (2, 5, 0, 7, 0)), (56, (1, 0, 0, 0, 0)), (57, (2, 5, 0, 8, 0)), (59, (1, 0, 0, 0, 0)), (60, (2, 5, 0, 9, 0)), (62, (2, 2, 0, 9, 0))], [(64, (1, 2, 0, 2, 0)), (65, (3, 26, 0, 146, 0)), (68, (1, 3, 0, 0, 0)), (69, (1, 2, 0, 1, 0)), (70, (2, 2, 0, 9, 0)), (72, (1, 9, 0, 0, 0)), (73, (1, 2, 0, 3, 0)), (74, (2, 2, 0, 4, 0)), (76, (3, 55, 0, 264, 4)), (79, (1, 3, 0, 0, 0))], [(80, (3, 55, 1, 214, 1)), (83, (2, 5, 0, 10, 0)), (85, (2, 2, 0, 6, 0)), (87, (1, 0, (-1), 0, 0)), (88, (3, 23, 0, 98, 0)), (91, (2, 2, 0, 10, 0)), (93, (2, 2, 0, 6, 0)), (95, (3, 26, 0, 103, 0))], [(98, (2, 2, 0, 10, 0)), (100, (3, 22, 0, 105, 0)), (103, (2, 2, 0, 6, 0)), (105, (2, 5, 0, 6, 0)), (107, (2, 2, 0, 10, 0)), (109, (2, 2, 0, 7, 0)), (111, (3, 28, 0, 119, 0))], [(114, (2, 2, 0, 10, 0)), (116, (3, 22, 0, 121, 0)), (119, (2, 2, 0, 7, 0)), (121, (2, 5, 0, 7, 0)), (123, (2, 2, 0, 8, 0)), (125, (1, 3, 0, 0, 0)), (126, (3, 55, 1, 216, 1))], [(129, (3, 30, 0, 136, 0)), (132, (1, 0, 1, 0, 0)), (133, (3, 22, 0, 137, 0)), (136, (1, 0, 0, 0, 0)), (137, (1, 9, 0, 0, 0)), (138, (2, 5, 0, 8, 0)), (140, (3, 8, 1, 9, 0)), (143, (3, 22, 0, 62, 0))], [(146, (2, 2, 0, 5, 0)), (148, (3, 30, 0, 156, 0)), (151, (2, 2, 0, 6, 0)), (153, (3, 22, 0, 169, 0)), (156, (2, 2, 0, 5, 0)), (158, (1, 0, 1, 0, 0)), (159, (3, 24, 0, 167, 0))], [(162, (2, 2, 0, 7, 0)), (164, (3, 22, 0, 169, 0)), (167, (2, 2, 0, 8, 0)), (169, (1, 62, 0, 0, 0))]]
abbrev m_R_keepsRow : Nat := 268
def t_R_keepsRow : List (List (Nat × pE)) := [[(0, (1, 0, 0, 0, 0)), (1, (2, 5, 0, 5, 0)), (3, (2, 2, 0, 5, 0)), (5, (1, 2, 0, 3, 0)), (6, (3, 26, 0, 49, 0)), (9, (2, 2, 0, 4, 0)), (11, (3, 29, 0, 30, 0)), (14, (1, 3, 0, 0, 0)), (15, (3, 39, 0, 11, 53))], [(18, (1, 2, 0, 1, 0)), (19, (2, 2, 0, 5, 0)), (21, (1, 9, 0, 0, 0)), (22, (1, 3, 0, 2, 0)), (23, (2, 2, 0, 5, 0)), (25, (1, 43, 0, 0, 0)), (26, (1, 44, 0, 0, 0)), (27, (3, 22, 0, 43, 0)), (30, (1, 3, 0, 2, 0)), (31, (2, 2, 0, 5, 0))], [(33, (1, 3, 0, 0, 0)), (34, (3, 39, 0, 11, 53)), (37, (1, 2, 0, 1, 0)), (38, (2, 2, 0, 5, 0)), (40, (1, 9, 0, 0, 0)), (41, (1, 43, 0, 0, 0)), (42, (1, 44, 0, 0, 0)), (43, (3, 8, 1, 5, 0)), (46, (3, 22, 0, 3, 0))], [(49, (1, 2, 0, 1, 0)), (50, (1, 2, 0, 3, 0)), (51, (1, 9, 0, 0, 0)), (52, (1, 62, 0, 0, 0))]]
abbrev m_R_keepsAll : Nat := 269
def t_R_keepsAll : List (List (Nat × pE)) := [[(0, (1, 3, 0, 0, 0)), (1, (3, 0, 1293, 0, 0)), (4, (1, 2, 0, 1, 0)), (5, (1, 9, 0, 0, 2)), (6, (1, 3, 0, 0, 0)), (7, (3, 39, 0, 11, 42)), (10, (2, 0, 76, 0, 0)), (12, (1, 2, 0, 2, 0)), (13, (3, 55, 1, 268, 5))], [(16, (1, 5, 0, 3, 0)), (17, (1, 3, 0, 0, 0)), (18, (1, 2, 0, 3, 0)), (19, (1, 3, 0, 0, 0)), (20, (3, 39, 0, 11, 44)), (23, (3, 0, 1216, 0, 0)), (26, (1, 2, 0, 2, 0)), (27, (3, 55, 1, 268, 5)), (30, (1, 5, 0, 3, 0)), (31, (1, 2, 0, 2, 0))], [(32, (3, 29, 0, 48, 0)), (35, (1, 3, 0, 0, 0)), (36, (3, 39, 0, 11, 53)), (39, (1, 2, 0, 3, 0)), (40, (1, 3, 0, 0, 0)), (41, (3, 38, 0, 11, 37)), (44, (1, 44, 0, 0, 0)), (45, (3, 22, 0, 58, 0))], [(48, (1, 3, 0, 0, 0)), (49, (1, 3, 0, 0, 0)), (50, (3, 39, 0, 11, 53)), (53, (1, 2, 0, 3, 0)), (54, (1, 43, 0, 0, 0)), (55, (3, 41, 0, 11, 37)), (58, (1, 65, 0, 0, 0))]]
abbrev m_R_image : Nat := 270
def t_R_image : List (List (Nat × pE)) := [[(0, (1, 3, 0, 0, 0)), (1, (1, 0, 0, 0, 0)), (2, (3, 41, 0, 11, 0)), (5, (1, 3, 0, 0, 0)), (6, (3, 38, 0, 11, 54)), (9, (1, 0, 3, 0, 0)), (10, (3, 24, 0, 15, 0)), (13, (1, 0, (-1), 0, 0)), (14, (1, 62, 0, 0, 0)), (15, (1, 3, 0, 0, 0))], [(16, (1, 3, 0, 0, 0)), (17, (3, 38, 0, 11, 54)), (20, (1, 0, 1, 0, 0)), (21, (3, 55, 0, 269, 3)), (24, (1, 3, 0, 0, 0)), (25, (1, 18, 0, 0, 0)), (26, (3, 38, 0, 11, 54)), (29, (1, 0, 1, 0, 0)), (30, (1, 9, 0, 0, 0)), (31, (3, 41, 0, 11, 54))], [(34, (1, 3, 0, 0, 0)), (35, (3, 38, 0, 11, 54)), (38, (1, 62, 0, 0, 0))]]
abbrev m_R_restore : Nat := 271
def t_R_restore : List (List (Nat × pE)) := [[(0, (1, 3, 0, 0, 0)), (1, (1, 0, 0, 0, 0)), (2, (3, 41, 0, 11, 0)), (5, (1, 3, 0, 0, 0)), (6, (3, 38, 0, 11, 54)), (9, (3, 30, 0, 14, 0)), (12, (1, 0, (-1), 0, 0)), (13, (1, 62, 0, 0, 0)), (14, (1, 3, 0, 0, 0)), (15, (1, 18, 0, 0, 0))], [(16, (3, 38, 0, 11, 54)), (19, (1, 0, 1, 0, 0)), (20, (1, 9, 0, 0, 1)), (21, (3, 41, 0, 11, 54)), (24, (1, 3, 0, 0, 0)), (25, (1, 3, 0, 0, 0)), (26, (3, 38, 0, 11, 54)), (29, (1, 0, 0, 0, 0)), (30, (3, 55, 0, 269, 3))], [(33, (1, 3, 0, 0, 0)), (34, (1, 0, 0, 0, 0)), (35, (3, 41, 0, 11, 38)), (38, (1, 3, 0, 0, 0)), (39, (3, 38, 0, 11, 54)), (42, (1, 62, 0, 0, 0))]]
abbrev m_R_status : Nat := 272
def t_R_status : List (List (Nat × pE)) := [[(0, (1, 3, 0, 0, 0)), (1, (1, 0, 0, 0, 0)), (2, (3, 41, 0, 11, 0)), (5, (1, 2, 0, 1, 0)), (6, (1, 0, 0, 0, 0)), (7, (1, 0, 1, 0, 0)), (8, (3, 56, 1, 162, 3)), (11, (3, 29, 0, 23, 0)), (14, (1, 3, 0, 0, 0)), (15, (3, 39, 0, 11, 1))], [(18, (1, 2, 0, 1, 0)), (19, (1, 43, 0, 0, 0)), (20, (3, 22, 0, 24, 0)), (23, (1, 0, (-1), 0, 0)), (24, (1, 62, 0, 0, 0))]]
abbrev m_R_count : Nat := 273
def t_R_count : List (List (Nat × pE)) := [[(0, (1, 3, 0, 0, 0)), (1, (1, 0, 0, 0, 0)), (2, (3, 41, 0, 11, 0)), (5, (1, 2, 0, 1, 0)), (6, (3, 30, 0, 16, 0)), (9, (1, 3, 0, 0, 0)), (10, (3, 38, 0, 11, 54)), (13, (3, 22, 0, 41, 0))], [(16, (1, 2, 0, 1, 0)), (17, (1, 0, 1, 0, 0)), (18, (3, 24, 0, 28, 0)), (21, (1, 3, 0, 0, 0)), (22, (3, 38, 0, 11, 2)), (25, (3, 22, 0, 41, 0)), (28, (1, 2, 0, 1, 0)), (29, (1, 0, 2, 0, 0)), (30, (3, 24, 0, 40, 0))], [(33, (1, 3, 0, 0, 0)), (34, (3, 38, 0, 11, 37)), (37, (3, 22, 0, 41, 0)), (40, (1, 0, (-1), 0, 0)), (41, (1, 62, 0, 0, 0))]]
abbrev m_L_studio : Nat := 274
def t_L_studio : List (List (Nat × pE)) := [[(0, (1, 3, 0, 2, 0)), (1, (1, 0, 0, 0, 0)), (2, (1, 3, 0, 0, 0)), (3, (1, 2, 0, 1, 0)), (4, (3, 55, 1, 95, 2)), (7, (1, 15, 0, 0, 0)), (8, (1, 46, 0, 0, 0)), (9, (3, 22, 0, 15, 0)), (12, (1, 6, 0, 3, 0)), (13, (1, 0, 1, 0, 0)), (14, (1, 62, 0, 0, 0)), (15, (1, 0, 0, 0, 0))], [(16, (1, 62, 0, 0, 0))]]
abbrev m_L_law : Nat := 275
def t_L_law : List (List (Nat × pE)) := [[(0, (1, 3, 0, 2, 0)), (1, (1, 0, 0, 0, 0)), (2, (1, 3, 0, 0, 0)), (3, (1, 2, 0, 1, 0)), (4, (3, 55, 1, 96, 2)), (7, (1, 15, 0, 0, 0)), (8, (1, 46, 0, 0, 0)), (9, (3, 22, 0, 15, 0)), (12, (1, 6, 0, 3, 0)), (13, (1, 0, 1, 0, 0)), (14, (1, 62, 0, 0, 0)), (15, (1, 0, 0, 0, 0))], [(16, (1, 62, 0, 0, 0))]]
abbrev m_L_work : Nat := 276
def t_L_work : List (List (Nat × pE)) := [[(0, (1, 3, 0, 2, 0)), (1, (1, 0, 0, 0, 0)), (2, (1, 3, 0, 0, 0)), (3, (1, 2, 0, 1, 0)), (4, (3, 55, 1, 97, 2)), (7, (1, 15, 0, 0, 0)), (8, (1, 46, 0, 0, 0)), (9, (3, 22, 0, 15, 0)), (12, (1, 6, 0, 3, 0)), (13, (1, 0, 1, 0, 0)), (14, (1, 62, 0, 0, 0)), (15, (1, 0, 0, 0, 0))], [(16, (1, 62, 0, 0, 0))]]
abbrev m_L_book : Nat := 277
def t_L_book : List (List (Nat × pE)) := [[(0, (1, 3, 0, 2, 0)), (1, (1, 0, 0, 0, 0)), (2, (1, 3, 0, 0, 0)), (3, (1, 2, 0, 1, 0)), (4, (3, 55, 1, 98, 2)), (7, (1, 15, 0, 0, 0)), (8, (1, 46, 0, 0, 0)), (9, (3, 22, 0, 15, 0)), (12, (1, 6, 0, 3, 0)), (13, (1, 0, 1, 0, 0)), (14, (1, 62, 0, 0, 0)), (15, (1, 0, 0, 0, 0))], [(16, (1, 62, 0, 0, 0))]]
abbrev m_L_told : Nat := 278
def t_L_told : List (List (Nat × pE)) := [[(0, (1, 3, 0, 2, 0)), (1, (1, 0, 0, 0, 0)), (2, (1, 3, 0, 0, 0)), (3, (1, 2, 0, 1, 0)), (4, (3, 55, 1, 103, 2)), (7, (1, 15, 0, 0, 0)), (8, (1, 46, 0, 0, 0)), (9, (3, 22, 0, 15, 0)), (12, (1, 6, 0, 3, 0)), (13, (1, 0, 1, 0, 0)), (14, (1, 62, 0, 0, 0)), (15, (1, 0, 0, 0, 0))], [(16, (1, 62, 0, 0, 0))]]
abbrev m_L_seat : Nat := 279
def t_L_seat : List (List (Nat × pE)) := [[(0, (1, 3, 0, 3, 0)), (1, (1, 0, 0, 0, 0)), (2, (1, 3, 0, 0, 0)), (3, (1, 2, 0, 1, 0)), (4, (1, 2, 0, 2, 0)), (5, (3, 55, 1, 104, 3)), (8, (1, 15, 0, 0, 0)), (9, (1, 46, 0, 0, 0)), (10, (3, 22, 0, 21, 0)), (13, (2, 6, 0, 4, 0)), (15, (1, 0, 1, 0, 0))], [(16, (1, 62, 0, 0, 0)), (17, (2, 6, 0, 4, 0)), (19, (1, 0, 2, 0, 0)), (20, (1, 62, 0, 0, 0)), (21, (1, 0, 0, 0, 0)), (22, (1, 62, 0, 0, 0))]]
abbrev m_L_sitter : Nat := 280
def t_L_sitter : List (List (Nat × pE)) := [[(0, (1, 3, 0, 3, 0)), (1, (1, 0, 0, 0, 0)), (2, (1, 3, 0, 0, 0)), (3, (1, 2, 0, 1, 0)), (4, (1, 2, 0, 2, 0)), (5, (3, 55, 1, 105, 3)), (8, (1, 15, 0, 0, 0)), (9, (1, 46, 0, 0, 0)), (10, (3, 22, 0, 21, 0)), (13, (2, 6, 0, 4, 0)), (15, (1, 0, 1, 0, 0))], [(16, (1, 62, 0, 0, 0)), (17, (2, 6, 0, 4, 0)), (19, (1, 0, 2, 0, 0)), (20, (1, 62, 0, 0, 0)), (21, (1, 0, 0, 0, 0)), (22, (1, 62, 0, 0, 0))]]
abbrev m_L_plate : Nat := 281
def t_L_plate : List (List (Nat × pE)) := [[(0, (1, 3, 0, 3, 0)), (1, (1, 0, 0, 0, 0)), (2, (1, 3, 0, 0, 0)), (3, (1, 2, 0, 1, 0)), (4, (1, 2, 0, 2, 0)), (5, (3, 55, 1, 106, 3)), (8, (1, 15, 0, 0, 0)), (9, (1, 46, 0, 0, 0)), (10, (3, 22, 0, 17, 0)), (13, (2, 6, 0, 4, 0)), (15, (1, 0, 1, 0, 0))], [(16, (1, 62, 0, 0, 0)), (17, (1, 0, 0, 0, 0)), (18, (1, 62, 0, 0, 0))]]
abbrev m_L_sitting : Nat := 282
def t_L_sitting : List (List (Nat × pE)) := [[(0, (1, 3, 0, 2, 0)), (1, (1, 0, 0, 0, 0)), (2, (1, 3, 0, 0, 0)), (3, (1, 2, 0, 1, 0)), (4, (3, 55, 1, 107, 2)), (7, (1, 15, 0, 0, 0)), (8, (1, 46, 0, 0, 0)), (9, (3, 22, 0, 15, 0)), (12, (1, 6, 0, 3, 0)), (13, (1, 0, 1, 0, 0)), (14, (1, 62, 0, 0, 0)), (15, (1, 0, 0, 0, 0))], [(16, (1, 62, 0, 0, 0))]]
abbrev m_L_mark : Nat := 283
def t_L_mark : List (List (Nat × pE)) := [[(0, (1, 3, 0, 2, 0)), (1, (1, 0, 0, 0, 0)), (2, (1, 3, 0, 0, 0)), (3, (1, 2, 0, 1, 0)), (4, (3, 55, 1, 108, 2)), (7, (1, 15, 0, 0, 0)), (8, (1, 46, 0, 0, 0)), (9, (3, 22, 0, 15, 0)), (12, (1, 6, 0, 3, 0)), (13, (1, 0, 1, 0, 0)), (14, (1, 62, 0, 0, 0)), (15, (1, 0, 0, 0, 0))], [(16, (1, 62, 0, 0, 0))]]
abbrev m_L_would : Nat := 284
def t_L_would : List (List (Nat × pE)) := [[(0, (2, 3, 0, 9, 0)), (2, (1, 0, 0, 0, 0)), (3, (1, 3, 0, 0, 0)), (4, (1, 2, 0, 1, 0)), (5, (1, 2, 0, 2, 0)), (6, (1, 2, 0, 3, 0)), (7, (2, 2, 0, 4, 0)), (9, (2, 2, 0, 5, 0)), (11, (2, 2, 0, 6, 0)), (13, (2, 2, 0, 7, 0)), (15, (2, 2, 0, 8, 0))], [(17, (3, 55, 1, 109, 9)), (20, (1, 15, 0, 0, 0)), (21, (1, 46, 0, 0, 0)), (22, (3, 22, 0, 29, 0)), (25, (2, 6, 0, 10, 0)), (27, (1, 0, 1, 0, 0)), (28, (1, 62, 0, 0, 0)), (29, (1, 0, 0, 0, 0)), (30, (1, 62, 0, 0, 0))]]
abbrev m_L_share : Nat := 285
def t_L_share : List (List (Nat × pE)) := [[(0, (2, 3, 0, 4, 0)), (2, (1, 0, 0, 0, 0)), (3, (1, 3, 0, 0, 0)), (4, (1, 2, 0, 1, 0)), (5, (1, 2, 0, 2, 0)), (6, (1, 2, 0, 3, 0)), (7, (3, 55, 1, 110, 4)), (10, (1, 15, 0, 0, 0)), (11, (1, 46, 0, 0, 0)), (12, (3, 22, 0, 23, 0)), (15, (2, 6, 0, 5, 0))], [(17, (1, 0, 1, 0, 0)), (18, (1, 62, 0, 0, 0)), (19, (2, 6, 0, 5, 0)), (21, (1, 0, 2, 0, 0)), (22, (1, 62, 0, 0, 0)), (23, (1, 0, 0, 0, 0)), (24, (1, 62, 0, 0, 0))]]
abbrev m_L_ahead : Nat := 286
def t_L_ahead : List (List (Nat × pE)) := [[(0, (1, 3, 0, 3, 0)), (1, (1, 0, 0, 0, 0)), (2, (1, 3, 0, 0, 0)), (3, (1, 2, 0, 1, 0)), (4, (1, 2, 0, 2, 0)), (5, (3, 55, 1, 111, 3)), (8, (1, 15, 0, 0, 0)), (9, (1, 46, 0, 0, 0)), (10, (3, 22, 0, 17, 0)), (13, (2, 6, 0, 4, 0)), (15, (1, 0, 1, 0, 0))], [(16, (1, 62, 0, 0, 0)), (17, (1, 0, 0, 0, 0)), (18, (1, 62, 0, 0, 0))]]
abbrev m_L_when : Nat := 287
def t_L_when : List (List (Nat × pE)) := [[(0, (1, 3, 0, 2, 0)), (1, (1, 0, 0, 0, 0)), (2, (1, 3, 0, 0, 0)), (3, (1, 2, 0, 1, 0)), (4, (3, 55, 1, 112, 2)), (7, (1, 15, 0, 0, 0)), (8, (1, 46, 0, 0, 0)), (9, (3, 22, 0, 15, 0)), (12, (1, 6, 0, 3, 0)), (13, (1, 0, 1, 0, 0)), (14, (1, 62, 0, 0, 0)), (15, (1, 0, 0, 0, 0))], [(16, (1, 62, 0, 0, 0))]]
abbrev m_L_meals : Nat := 288
def t_L_meals : List (List (Nat × pE)) := [[(0, (1, 3, 0, 3, 0)), (1, (1, 0, 0, 0, 0)), (2, (1, 3, 0, 0, 0)), (3, (1, 2, 0, 1, 0)), (4, (1, 2, 0, 2, 0)), (5, (3, 55, 1, 113, 3)), (8, (1, 15, 0, 0, 0)), (9, (1, 46, 0, 0, 0)), (10, (3, 22, 0, 21, 0)), (13, (2, 6, 0, 4, 0)), (15, (1, 0, 1, 0, 0))], [(16, (1, 62, 0, 0, 0)), (17, (2, 6, 0, 4, 0)), (19, (1, 0, 2, 0, 0)), (20, (1, 62, 0, 0, 0)), (21, (1, 0, 0, 0, 0)), (22, (1, 62, 0, 0, 0))]]
abbrev m_L_goings : Nat := 289
def t_L_goings : List (List (Nat × pE)) := [[(0, (1, 3, 0, 3, 0)), (1, (1, 0, 0, 0, 0)), (2, (1, 3, 0, 0, 0)), (3, (1, 2, 0, 1, 0)), (4, (1, 2, 0, 2, 0)), (5, (3, 55, 1, 117, 3)), (8, (1, 15, 0, 0, 0)), (9, (1, 46, 0, 0, 0)), (10, (3, 22, 0, 21, 0)), (13, (2, 6, 0, 4, 0)), (15, (1, 0, 1, 0, 0))], [(16, (1, 62, 0, 0, 0)), (17, (2, 6, 0, 4, 0)), (19, (1, 0, 2, 0, 0)), (20, (1, 62, 0, 0, 0)), (21, (1, 0, 0, 0, 0)), (22, (1, 62, 0, 0, 0))]]
abbrev m_L_bright : Nat := 290
def t_L_bright : List (List (Nat × pE)) := [[(0, (1, 3, 0, 2, 0)), (1, (1, 0, 0, 0, 0)), (2, (1, 3, 0, 0, 0)), (3, (1, 2, 0, 1, 0)), (4, (3, 55, 1, 118, 2)), (7, (1, 15, 0, 0, 0)), (8, (1, 46, 0, 0, 0)), (9, (3, 22, 0, 15, 0)), (12, (1, 6, 0, 3, 0)), (13, (1, 0, 1, 0, 0)), (14, (1, 62, 0, 0, 0)), (15, (1, 0, 0, 0, 0))], [(16, (1, 62, 0, 0, 0))]]
abbrev m_L_placed : Nat := 291
def t_L_placed : List (List (Nat × pE)) := [[(0, (1, 3, 0, 2, 0)), (1, (1, 0, 0, 0, 0)), (2, (1, 3, 0, 0, 0)), (3, (1, 2, 0, 1, 0)), (4, (3, 55, 1, 120, 2)), (7, (1, 15, 0, 0, 0)), (8, (1, 46, 0, 0, 0)), (9, (3, 22, 0, 15, 0)), (12, (1, 6, 0, 3, 0)), (13, (1, 0, 1, 0, 0)), (14, (1, 62, 0, 0, 0)), (15, (1, 0, 0, 0, 0))], [(16, (1, 62, 0, 0, 0))]]
abbrev m_L_packed : Nat := 292
def t_L_packed : List (List (Nat × pE)) := [[(0, (1, 3, 0, 2, 0)), (1, (1, 0, 0, 0, 0)), (2, (1, 3, 0, 0, 0)), (3, (1, 2, 0, 1, 0)), (4, (3, 55, 1, 122, 2)), (7, (1, 15, 0, 0, 0)), (8, (1, 46, 0, 0, 0)), (9, (3, 22, 0, 15, 0)), (12, (1, 6, 0, 3, 0)), (13, (1, 0, 1, 0, 0)), (14, (1, 62, 0, 0, 0)), (15, (1, 0, 0, 0, 0))], [(16, (1, 62, 0, 0, 0))]]
abbrev m_L_well : Nat := 293
def t_L_well : List (List (Nat × pE)) := [[(0, (2, 3, 0, 4, 0)), (2, (1, 0, 0, 0, 0)), (3, (1, 3, 0, 0, 0)), (4, (1, 2, 0, 1, 0)), (5, (1, 2, 0, 2, 0)), (6, (1, 2, 0, 3, 0)), (7, (3, 55, 2, 123, 4)), (10, (1, 46, 0, 0, 0)), (11, (3, 22, 0, 18, 0)), (14, (2, 6, 0, 5, 0))], [(16, (1, 0, 1, 0, 0)), (17, (1, 62, 0, 0, 0)), (18, (1, 0, 0, 0, 0)), (19, (1, 62, 0, 0, 0))]]
abbrev m_L_getsUp : Nat := 294
def t_L_getsUp : List (List (Nat × pE)) := [[(0, (2, 3, 0, 5, 0)), (2, (1, 0, 0, 0, 0)), (3, (1, 3, 0, 0, 0)), (4, (1, 2, 0, 1, 0)), (5, (1, 2, 0, 2, 0)), (6, (1, 2, 0, 3, 0)), (7, (2, 2, 0, 4, 0)), (9, (3, 55, 1, 124, 5)), (12, (1, 15, 0, 0, 0)), (13, (1, 46, 0, 0, 0)), (14, (3, 22, 0, 21, 0))], [(17, (2, 6, 0, 6, 0)), (19, (1, 0, 1, 0, 0)), (20, (1, 62, 0, 0, 0)), (21, (1, 0, 0, 0, 0)), (22, (1, 62, 0, 0, 0))]]
abbrev m_L_food : Nat := 295
def t_L_food : List (List (Nat × pE)) := [[(0, (2, 3, 0, 4, 0)), (2, (1, 0, 0, 0, 0)), (3, (1, 3, 0, 0, 0)), (4, (1, 2, 0, 1, 0)), (5, (1, 2, 0, 2, 0)), (6, (1, 2, 0, 3, 0)), (7, (3, 55, 1, 125, 4)), (10, (1, 15, 0, 0, 0)), (11, (1, 46, 0, 0, 0)), (12, (3, 22, 0, 23, 0)), (15, (2, 6, 0, 5, 0))], [(17, (1, 0, 1, 0, 0)), (18, (1, 62, 0, 0, 0)), (19, (2, 6, 0, 5, 0)), (21, (1, 0, 2, 0, 0)), (22, (1, 62, 0, 0, 0)), (23, (1, 0, 0, 0, 0)), (24, (1, 62, 0, 0, 0))]]
abbrev m_L_darkest : Nat := 296
def t_L_darkest : List (List (Nat × pE)) := [[(0, (1, 3, 0, 2, 0)), (1, (1, 0, 0, 0, 0)), (2, (1, 3, 0, 0, 0)), (3, (1, 2, 0, 1, 0)), (4, (3, 55, 1, 126, 2)), (7, (1, 15, 0, 0, 0)), (8, (1, 46, 0, 0, 0)), (9, (3, 22, 0, 15, 0)), (12, (1, 6, 0, 3, 0)), (13, (1, 0, 1, 0, 0)), (14, (1, 62, 0, 0, 0)), (15, (1, 0, 0, 0, 0))], [(16, (1, 62, 0, 0, 0))]]
abbrev m_L_stillest : Nat := 297
def t_L_stillest : List (List (Nat × pE)) := [[(0, (1, 3, 0, 2, 0)), (1, (1, 0, 0, 0, 0)), (2, (1, 3, 0, 0, 0)), (3, (1, 2, 0, 1, 0)), (4, (3, 55, 1, 127, 2)), (7, (1, 15, 0, 0, 0)), (8, (1, 46, 0, 0, 0)), (9, (3, 22, 0, 15, 0)), (12, (1, 6, 0, 3, 0)), (13, (1, 0, 1, 0, 0)), (14, (1, 62, 0, 0, 0)), (15, (1, 0, 0, 0, 0))], [(16, (1, 62, 0, 0, 0))]]
abbrev m_L_stains : Nat := 298
def t_L_stains : List (List (Nat × pE)) := [[(0, (1, 3, 0, 2, 0)), (1, (1, 0, 0, 0, 0)), (2, (1, 3, 0, 0, 0)), (3, (1, 2, 0, 1, 0)), (4, (3, 55, 1, 128, 2)), (7, (1, 15, 0, 0, 0)), (8, (1, 46, 0, 0, 0)), (9, (3, 22, 0, 15, 0)), (12, (1, 6, 0, 3, 0)), (13, (1, 0, 1, 0, 0)), (14, (1, 62, 0, 0, 0)), (15, (1, 0, 0, 0, 0))], [(16, (1, 62, 0, 0, 0))]]
abbrev m_L_hungriest : Nat := 299
def t_L_hungriest : List (List (Nat × pE)) := [[(0, (1, 3, 0, 2, 0)), (1, (1, 0, 0, 0, 0)), (2, (1, 3, 0, 0, 0)), (3, (1, 2, 0, 1, 0)), (4, (3, 55, 1, 129, 2)), (7, (1, 15, 0, 0, 0)), (8, (1, 46, 0, 0, 0)), (9, (3, 22, 0, 15, 0)), (12, (1, 6, 0, 3, 0)), (13, (1, 0, 1, 0, 0)), (14, (1, 62, 0, 0, 0)), (15, (1, 0, 0, 0, 0))], [(16, (1, 62, 0, 0, 0))]]
abbrev m_L_brightest : Nat := 300
def t_L_brightest : List (List (Nat × pE)) := [[(0, (1, 3, 0, 2, 0)), (1, (1, 0, 0, 0, 0)), (2, (1, 3, 0, 0, 0)), (3, (1, 2, 0, 1, 0)), (4, (3, 55, 1, 130, 2)), (7, (1, 15, 0, 0, 0)), (8, (1, 46, 0, 0, 0)), (9, (3, 22, 0, 15, 0)), (12, (1, 6, 0, 3, 0)), (13, (1, 0, 1, 0, 0)), (14, (1, 62, 0, 0, 0)), (15, (1, 0, 0, 0, 0))], [(16, (1, 62, 0, 0, 0))]]
abbrev m_L_empty : Nat := 301
def t_L_empty : List (List (Nat × pE)) := [[(0, (1, 3, 0, 2, 0)), (1, (1, 0, 0, 0, 0)), (2, (1, 3, 0, 0, 0)), (3, (1, 2, 0, 1, 0)), (4, (3, 55, 1, 131, 2)), (7, (1, 15, 0, 0, 0)), (8, (1, 46, 0, 0, 0)), (9, (3, 22, 0, 15, 0)), (12, (1, 6, 0, 3, 0)), (13, (1, 0, 1, 0, 0)), (14, (1, 62, 0, 0, 0)), (15, (1, 0, 0, 0, 0))], [(16, (1, 62, 0, 0, 0))]]
abbrev m_L_rising : Nat := 302
def t_L_rising : List (List (Nat × pE)) := [[(0, (1, 3, 0, 2, 0)), (1, (1, 0, 0, 0, 0)), (2, (1, 3, 0, 0, 0)), (3, (1, 2, 0, 1, 0)), (4, (3, 55, 1, 115, 2)), (7, (1, 15, 0, 0, 0)), (8, (1, 46, 0, 0, 0)), (9, (3, 22, 0, 15, 0)), (12, (1, 6, 0, 3, 0)), (13, (1, 0, 1, 0, 0)), (14, (1, 62, 0, 0, 0)), (15, (1, 0, 0, 0, 0))], [(16, (1, 62, 0, 0, 0))]]
abbrev m_L_gains : Nat := 303
def t_L_gains : List (List (Nat × pE)) := [[(0, (1, 3, 0, 3, 0)), (1, (1, 0, 0, 0, 0)), (2, (1, 3, 0, 0, 0)), (3, (1, 2, 0, 1, 0)), (4, (1, 2, 0, 2, 0)), (5, (3, 55, 1, 116, 3)), (8, (1, 15, 0, 0, 0)), (9, (1, 46, 0, 0, 0)), (10, (3, 22, 0, 17, 0)), (13, (2, 6, 0, 4, 0)), (15, (1, 0, 1, 0, 0))], [(16, (1, 62, 0, 0, 0)), (17, (1, 0, 0, 0, 0)), (18, (1, 62, 0, 0, 0))]]
abbrev m_L_crowd : Nat := 304
def t_L_crowd : List (List (Nat × pE)) := [[(0, (1, 3, 0, 2, 0)), (1, (1, 0, 0, 0, 0)), (2, (1, 3, 0, 0, 0)), (3, (1, 2, 0, 1, 0)), (4, (3, 55, 1, 133, 2)), (7, (1, 15, 0, 0, 0)), (8, (1, 46, 0, 0, 0)), (9, (3, 22, 0, 15, 0)), (12, (1, 6, 0, 3, 0)), (13, (1, 0, 1, 0, 0)), (14, (1, 62, 0, 0, 0)), (15, (1, 0, 0, 0, 0))], [(16, (1, 62, 0, 0, 0))]]
abbrev m_L_need : Nat := 305
def t_L_need : List (List (Nat × pE)) := [[(0, (1, 3, 0, 2, 0)), (1, (1, 0, 0, 0, 0)), (2, (1, 3, 0, 0, 0)), (3, (1, 2, 0, 1, 0)), (4, (3, 55, 1, 114, 2)), (7, (1, 15, 0, 0, 0)), (8, (1, 46, 0, 0, 0)), (9, (3, 22, 0, 15, 0)), (12, (1, 6, 0, 3, 0)), (13, (1, 0, 1, 0, 0)), (14, (1, 62, 0, 0, 0)), (15, (1, 0, 0, 0, 0))], [(16, (1, 62, 0, 0, 0))]]
abbrev m_L_lead : Nat := 306
def t_L_lead : List (List (Nat × pE)) := [[(0, (1, 3, 0, 2, 0)), (1, (1, 0, 0, 0, 0)), (2, (1, 3, 0, 0, 0)), (3, (1, 2, 0, 1, 0)), (4, (3, 55, 1, 134, 2)), (7, (1, 15, 0, 0, 0)), (8, (1, 46, 0, 0, 0)), (9, (3, 22, 0, 15, 0)), (12, (1, 6, 0, 3, 0)), (13, (1, 0, 1, 0, 0)), (14, (1, 62, 0, 0, 0)), (15, (1, 0, 0, 0, 0))], [(16, (1, 62, 0, 0, 0))]]
abbrev m_L_season : Nat := 307
def t_L_season : List (List (Nat × pE)) := [[(0, (2, 3, 0, 5, 0)), (2, (1, 0, 0, 0, 0)), (3, (1, 3, 0, 0, 0)), (4, (1, 2, 0, 1, 0)), (5, (1, 2, 0, 2, 0)), (6, (1, 2, 0, 3, 0)), (7, (2, 2, 0, 4, 0)), (9, (3, 55, 1, 135, 5)), (12, (1, 15, 0, 0, 0)), (13, (1, 46, 0, 0, 0)), (14, (3, 22, 0, 21, 0))], [(17, (2, 6, 0, 6, 0)), (19, (1, 0, 1, 0, 0)), (20, (1, 62, 0, 0, 0)), (21, (1, 0, 0, 0, 0)), (22, (1, 62, 0, 0, 0))]]
abbrev m_L_span : Nat := 308
def t_L_span : List (List (Nat × pE)) := [[(0, (2, 3, 0, 6, 0)), (2, (1, 0, 0, 0, 0)), (3, (1, 3, 0, 0, 0)), (4, (1, 2, 0, 1, 0)), (5, (1, 2, 0, 2, 0)), (6, (1, 2, 0, 3, 0)), (7, (2, 2, 0, 4, 0)), (9, (2, 2, 0, 5, 0)), (11, (3, 55, 1, 136, 6)), (14, (1, 15, 0, 0, 0)), (15, (1, 46, 0, 0, 0))], [(16, (3, 22, 0, 23, 0)), (19, (2, 6, 0, 7, 0)), (21, (1, 0, 1, 0, 0)), (22, (1, 62, 0, 0, 0)), (23, (1, 0, 0, 0, 0)), (24, (1, 62, 0, 0, 0))]]
abbrev m_L_main : Nat := 309
def t_L_main_0 : List (List (Nat × pE)) := [[(0, (3, 53, 0, 10, 14)), (3, (1, 18, 0, 0, 0)), (4, (3, 57, 0, 93, 1)), (7, (1, 6, 0, 1, 1)), (8, (3, 53, 0, 11, 55)), (11, (1, 18, 0, 0, 0)), (12, (3, 57, 0, 163, 1)), (15, (1, 6, 0, 2, 1))], [(16, (1, 0, 1, 0, 0)), (17, (2, 51, 0, 0, 0)), (19, (1, 6, 0, 3, 1)), (20, (1, 0, 0, 0, 0)), (21, (2, 5, 0, 4, 1)), (23, (2, 2, 0, 4, 0)), (25, (1, 3, 0, 0, 0)), (26, (1, 49, 0, 0, 0)), (27, (2, 0, 9, 0, 0)), (29, (1, 9, 0, 0, 1)), (30, (3, 27, 0, 2781, 0))], [(33, (1, 3, 0, 0, 0)), (34, (2, 2, 0, 4, 0)), (36, (1, 43, 0, 0, 0)), (37, (2, 0, 63, 0, 0)), (39, (1, 9, 0, 0, 6)), (40, (196, 37, 0, 11, 0))], [], [], [], [], [], [], [], [], [], [], [], [(236, (1, 3, 0, 1, 0)), (237, (1, 3, 0, 0, 0)), (238, (2, 2, 0, 4, 0))], [(240, (1, 0, 1, 0, 0)), (241, (1, 9, 0, 0, 0)), (242, (1, 43, 0, 0, 0)), (243, (1, 3, 0, 0, 0)), (244, (2, 2, 0, 4, 0)), (246, (1, 0, 2, 0, 0)), (247, (1, 9, 0, 0, 0)), (248, (1, 43, 0, 0, 0)), (249, (1, 3, 0, 0, 0)), (250, (2, 2, 0, 4, 0)), (252, (1, 0, 3, 0, 0)), (253, (1, 9, 0, 0, 0)), (254, (1, 43, 0, 0, 0)), (255, (1, 3, 0, 0, 0))]]
def t_L_main_1 : List (List (Nat × pE)) := [[(256, (2, 2, 0, 4, 0)), (258, (1, 0, 4, 0, 0)), (259, (1, 9, 0, 0, 0)), (260, (1, 43, 0, 0, 0)), (261, (1, 3, 0, 0, 0)), (262, (2, 2, 0, 4, 0)), (264, (1, 0, 5, 0, 0)), (265, (1, 9, 0, 0, 0)), (266, (1, 43, 0, 0, 0)), (267, (3, 55, 1, 94, 6)), (270, (1, 3, 0, 2, 0)), (271, (1, 3, 0, 0, 0))], [(272, (2, 2, 0, 4, 0)), (274, (1, 0, 1, 0, 0)), (275, (1, 9, 0, 0, 0)), (276, (1, 43, 0, 0, 0)), (277, (1, 3, 0, 0, 0)), (278, (2, 2, 0, 4, 0)), (280, (1, 0, 2, 0, 0)), (281, (1, 9, 0, 0, 0)), (282, (1, 43, 0, 0, 0)), (283, (1, 3, 0, 0, 0)), (284, (2, 2, 0, 4, 0)), (286, (1, 0, 3, 0, 0)), (287, (1, 9, 0, 0, 0))], [(288, (1, 43, 0, 0, 0)), (289, (1, 3, 0, 0, 0)), (290, (2, 2, 0, 4, 0)), (292, (1, 0, 4, 0, 0)), (293, (1, 9, 0, 0, 0)), (294, (1, 43, 0, 0, 0)), (295, (1, 3, 0, 0, 0)), (296, (2, 2, 0, 4, 0)), (298, (1, 0, 5, 0, 0)), (299, (1, 9, 0, 0, 0)), (300, (1, 43, 0, 0, 0)), (301, (3, 55, 1, 164, 6))], [(304, (3, 23, 0, 2775, 0)), (307, (1, 0, 0, 0, 0)), (308, (1, 66, 0, 0, 0)), (309, (1, 3, 0, 1, 0)), (310, (1, 3, 0, 0, 0)), (311, (2, 2, 0, 4, 0)), (313, (1, 0, 1, 0, 0)), (314, (1, 9, 0, 0, 0)), (315, (1, 43, 0, 0, 0)), (316, (1, 3, 0, 3, 0)), (317, (3, 56, 1, 274, 3))], [(320, (2, 5, 0, 5, 1)), (322, (1, 3, 0, 2, 0)), (323, (1, 3, 0, 0, 0)), (324, (2, 2, 0, 4, 0)), (326, (1, 0, 1, 0, 0)), (327, (1, 9, 0, 0, 0)), (328, (1, 43, 0, 0, 0)), (329, (3, 55, 1, 185, 2)), (332, (2, 5, 0, 6, 1)), (334, (1, 3, 0, 2, 0)), (335, (3, 55, 1, 160, 1))], [(338, (2, 2, 0, 5, 0)), (340, (3, 23, 0, 345, 0)), (343, (1, 0, 0, 0, 0)), (344, (1, 66, 0, 0, 0)), (345, (2, 2, 0, 5, 0)), (347, (3, 30, 0, 362, 0)), (350, (1, 3, 0, 3, 0)), (351, (1, 0, 0, 0, 0))], [(352, (1, 45, 0, 0, 0)), (353, (2, 2, 0, 6, 0)), (355, (1, 15, 0, 0, 0)), (356, (1, 17, 0, 0, 0)), (357, (3, 29, 0, 362, 0)), (360, (1, 0, 0, 0, 0)), (361, (1, 66, 0, 0, 0)), (362, (3, 22, 0, 2775, 0)), (365, (1, 3, 0, 1, 0)), (366, (1, 3, 0, 0, 0)), (367, (2, 2, 0, 4, 0))], [(369, (1, 0, 1, 0, 0)), (370, (1, 9, 0, 0, 0)), (371, (1, 43, 0, 0, 0)), (372, (1, 3, 0, 3, 0)), (373, (3, 56, 1, 275, 3)), (376, (2, 5, 0, 5, 1)), (378, (1, 3, 0, 2, 0)), (379, (1, 3, 0, 0, 0)), (380, (2, 2, 0, 4, 0)), (382, (1, 0, 1, 0, 0)), (383, (1, 9, 0, 0, 0))], [(384, (1, 43, 0, 0, 0)), (385, (3, 55, 1, 194, 2)), (388, (2, 5, 0, 6, 1)), (390, (1, 3, 0, 2, 0)), (391, (3, 55, 1, 160, 1)), (394, (2, 2, 0, 5, 0)), (396, (3, 23, 0, 401, 0)), (399, (1, 0, 0, 0, 0))], [(400, (1, 66, 0, 0, 0)), (401, (2, 2, 0, 5, 0)), (403, (3, 30, 0, 418, 0)), (406, (1, 3, 0, 3, 0)), (407, (1, 0, 0, 0, 0)), (408, (1, 45, 0, 0, 0)), (409, (2, 2, 0, 6, 0)), (411, (1, 15, 0, 0, 0)), (412, (1, 17, 0, 0, 0)), (413, (3, 29, 0, 418, 0))], [(416, (1, 0, 0, 0, 0)), (417, (1, 66, 0, 0, 0)), (418, (3, 22, 0, 2775, 0)), (421, (1, 3, 0, 1, 0)), (422, (1, 3, 0, 0, 0)), (423, (2, 2, 0, 4, 0)), (425, (1, 0, 1, 0, 0)), (426, (1, 9, 0, 0, 0)), (427, (1, 43, 0, 0, 0)), (428, (1, 3, 0, 3, 0)), (429, (3, 56, 1, 276, 3))], [(432, (2, 5, 0, 5, 1)), (434, (1, 3, 0, 2, 0)), (435, (1, 3, 0, 0, 0)), (436, (2, 2, 0, 4, 0)), (438, (1, 0, 1, 0, 0)), (439, (1, 9, 0, 0, 0)), (440, (1, 43, 0, 0, 0)), (441, (3, 55, 1, 200, 2)), (444, (2, 5, 0, 6, 1)), (446, (1, 3, 0, 2, 0)), (447, (3, 55, 1, 160, 1))], [(450, (2, 2, 0, 5, 0)), (452, (3, 23, 0, 457, 0)), (455, (1, 0, 0, 0, 0)), (456, (1, 66, 0, 0, 0)), (457, (2, 2, 0, 5, 0)), (459, (3, 30, 0, 474, 0)), (462, (1, 3, 0, 3, 0)), (463, (1, 0, 0, 0, 0))], [(464, (1, 45, 0, 0, 0)), (465, (2, 2, 0, 6, 0)), (467, (1, 15, 0, 0, 0)), (468, (1, 17, 0, 0, 0)), (469, (3, 29, 0, 474, 0)), (472, (1, 0, 0, 0, 0)), (473, (1, 66, 0, 0, 0)), (474, (3, 22, 0, 2775, 0)), (477, (1, 3, 0, 1, 0)), (478, (1, 3, 0, 0, 0)), (479, (2, 2, 0, 4, 0))], [(481, (1, 0, 1, 0, 0)), (482, (1, 9, 0, 0, 0)), (483, (1, 43, 0, 0, 0)), (484, (1, 3, 0, 3, 0)), (485, (3, 56, 1, 277, 3)), (488, (2, 5, 0, 5, 1)), (490, (1, 3, 0, 2, 0)), (491, (1, 3, 0, 0, 0)), (492, (2, 2, 0, 4, 0)), (494, (1, 0, 1, 0, 0)), (495, (1, 9, 0, 0, 0))], [(496, (1, 43, 0, 0, 0)), (497, (3, 55, 1, 217, 2)), (500, (2, 5, 0, 6, 1)), (502, (1, 3, 0, 2, 0)), (503, (3, 55, 1, 160, 1)), (506, (2, 2, 0, 5, 0)), (508, (3, 23, 0, 513, 0)), (511, (1, 0, 0, 0, 0))]]
def t_L_main_2 : List (List (Nat × pE)) := [[(512, (1, 66, 0, 0, 0)), (513, (2, 2, 0, 5, 0)), (515, (3, 30, 0, 530, 0)), (518, (1, 3, 0, 3, 0)), (519, (1, 0, 0, 0, 0)), (520, (1, 45, 0, 0, 0)), (521, (2, 2, 0, 6, 0)), (523, (1, 15, 0, 0, 0)), (524, (1, 17, 0, 0, 0)), (525, (3, 29, 0, 530, 0))], [(528, (1, 0, 0, 0, 0)), (529, (1, 66, 0, 0, 0)), (530, (3, 22, 0, 2775, 0)), (533, (1, 3, 0, 1, 0)), (534, (3, 55, 1, 99, 1)), (537, (1, 3, 0, 2, 0)), (538, (3, 55, 1, 178, 1)), (541, (3, 23, 0, 2775, 0))], [(544, (1, 0, 0, 0, 0)), (545, (1, 66, 0, 0, 0)), (546, (1, 3, 0, 1, 0)), (547, (3, 55, 1, 100, 1)), (550, (1, 3, 0, 2, 0)), (551, (3, 55, 1, 218, 1)), (554, (3, 23, 0, 2775, 0)), (557, (1, 0, 0, 0, 0)), (558, (1, 66, 0, 0, 0)), (559, (1, 3, 0, 1, 0))], [(560, (1, 3, 0, 0, 0)), (561, (2, 2, 0, 4, 0)), (563, (1, 0, 1, 0, 0)), (564, (1, 9, 0, 0, 0)), (565, (1, 43, 0, 0, 0)), (566, (1, 3, 0, 3, 0)), (567, (3, 56, 1, 278, 3)), (570, (2, 5, 0, 5, 1)), (572, (1, 3, 0, 2, 0)), (573, (1, 3, 0, 0, 0)), (574, (2, 2, 0, 4, 0))], [(576, (1, 0, 1, 0, 0)), (577, (1, 9, 0, 0, 0)), (578, (1, 43, 0, 0, 0)), (579, (3, 55, 1, 219, 2)), (582, (2, 5, 0, 6, 1)), (584, (1, 3, 0, 2, 0)), (585, (3, 55, 1, 160, 1)), (588, (2, 2, 0, 5, 0)), (590, (3, 23, 0, 595, 0))], [(593, (1, 0, 0, 0, 0)), (594, (1, 66, 0, 0, 0)), (595, (2, 2, 0, 5, 0)), (597, (3, 30, 0, 612, 0)), (600, (1, 3, 0, 3, 0)), (601, (1, 0, 0, 0, 0)), (602, (1, 45, 0, 0, 0)), (603, (2, 2, 0, 6, 0)), (605, (1, 15, 0, 0, 0)), (606, (1, 17, 0, 0, 0)), (607, (3, 29, 0, 612, 0))], [(610, (1, 0, 0, 0, 0)), (611, (1, 66, 0, 0, 0)), (612, (3, 22, 0, 2775, 0)), (615, (1, 3, 0, 1, 0)), (616, (1, 3, 0, 0, 0)), (617, (2, 2, 0, 4, 0)), (619, (1, 0, 1, 0, 0)), (620, (1, 9, 0, 0, 0)), (621, (1, 43, 0, 0, 0)), (622, (1, 3, 0, 0, 0)), (623, (2, 2, 0, 4, 0))], [(625, (1, 0, 2, 0, 0)), (626, (1, 9, 0, 0, 0)), (627, (1, 43, 0, 0, 0)), (628, (1, 3, 0, 3, 0)), (629, (3, 56, 1, 279, 4)), (632, (2, 5, 0, 5, 1)), (634, (1, 3, 0, 2, 0)), (635, (1, 3, 0, 0, 0)), (636, (2, 2, 0, 4, 0)), (638, (1, 0, 1, 0, 0)), (639, (1, 9, 0, 0, 0))], [(640, (1, 43, 0, 0, 0)), (641, (1, 3, 0, 0, 0)), (642, (2, 2, 0, 4, 0)), (644, (1, 0, 2, 0, 0)), (645, (1, 9, 0, 0, 0)), (646, (1, 43, 0, 0, 0)), (647, (3, 55, 1, 222, 3)), (650, (2, 5, 0, 6, 1)), (652, (1, 3, 0, 2, 0)), (653, (3, 55, 1, 160, 1))], [(656, (2, 2, 0, 5, 0)), (658, (3, 23, 0, 663, 0)), (661, (1, 0, 0, 0, 0)), (662, (1, 66, 0, 0, 0)), (663, (2, 2, 0, 5, 0)), (665, (3, 30, 0, 680, 0)), (668, (1, 3, 0, 3, 0)), (669, (1, 0, 0, 0, 0)), (670, (1, 45, 0, 0, 0)), (671, (2, 2, 0, 6, 0))], [(673, (1, 15, 0, 0, 0)), (674, (1, 17, 0, 0, 0)), (675, (3, 29, 0, 680, 0)), (678, (1, 0, 0, 0, 0)), (679, (1, 66, 0, 0, 0)), (680, (3, 22, 0, 2775, 0)), (683, (1, 3, 0, 1, 0)), (684, (1, 3, 0, 0, 0)), (685, (2, 2, 0, 4, 0)), (687, (1, 0, 1, 0, 0))], [(688, (1, 9, 0, 0, 0)), (689, (1, 43, 0, 0, 0)), (690, (1, 3, 0, 0, 0)), (691, (2, 2, 0, 4, 0)), (693, (1, 0, 2, 0, 0)), (694, (1, 9, 0, 0, 0)), (695, (1, 43, 0, 0, 0)), (696, (1, 3, 0, 3, 0)), (697, (3, 56, 1, 280, 4)), (700, (2, 5, 0, 5, 1)), (702, (1, 3, 0, 2, 0)), (703, (1, 3, 0, 0, 0))], [(704, (2, 2, 0, 4, 0)), (706, (1, 0, 1, 0, 0)), (707, (1, 9, 0, 0, 0)), (708, (1, 43, 0, 0, 0)), (709, (1, 3, 0, 0, 0)), (710, (2, 2, 0, 4, 0)), (712, (1, 0, 2, 0, 0)), (713, (1, 9, 0, 0, 0)), (714, (1, 43, 0, 0, 0)), (715, (3, 55, 1, 224, 3)), (718, (2, 5, 0, 6, 1))], [(720, (1, 3, 0, 2, 0)), (721, (3, 55, 1, 160, 1)), (724, (2, 2, 0, 5, 0)), (726, (3, 23, 0, 731, 0)), (729, (1, 0, 0, 0, 0)), (730, (1, 66, 0, 0, 0)), (731, (2, 2, 0, 5, 0)), (733, (3, 30, 0, 748, 0))], [(736, (1, 3, 0, 3, 0)), (737, (1, 0, 0, 0, 0)), (738, (1, 45, 0, 0, 0)), (739, (2, 2, 0, 6, 0)), (741, (1, 15, 0, 0, 0)), (742, (1, 17, 0, 0, 0)), (743, (3, 29, 0, 748, 0)), (746, (1, 0, 0, 0, 0)), (747, (1, 66, 0, 0, 0)), (748, (3, 22, 0, 2775, 0)), (751, (1, 3, 0, 1, 0))], [(752, (1, 3, 0, 0, 0)), (753, (2, 2, 0, 4, 0)), (755, (1, 0, 1, 0, 0)), (756, (1, 9, 0, 0, 0)), (757, (1, 43, 0, 0, 0)), (758, (1, 3, 0, 0, 0)), (759, (2, 2, 0, 4, 0)), (761, (1, 0, 2, 0, 0)), (762, (1, 9, 0, 0, 0)), (763, (1, 43, 0, 0, 0)), (764, (1, 3, 0, 3, 0)), (765, (3, 56, 1, 281, 4))]]
def t_L_main_3 : List (List (Nat × pE)) := [[(768, (2, 5, 0, 5, 1)), (770, (1, 3, 0, 2, 0)), (771, (1, 3, 0, 0, 0)), (772, (2, 2, 0, 4, 0)), (774, (1, 0, 1, 0, 0)), (775, (1, 9, 0, 0, 0)), (776, (1, 43, 0, 0, 0)), (777, (1, 3, 0, 0, 0)), (778, (2, 2, 0, 4, 0)), (780, (1, 0, 2, 0, 0)), (781, (1, 9, 0, 0, 0)), (782, (1, 43, 0, 0, 0)), (783, (3, 55, 1, 225, 3))], [(786, (2, 5, 0, 6, 1)), (788, (1, 3, 0, 2, 0)), (789, (3, 55, 1, 160, 1)), (792, (2, 2, 0, 5, 0)), (794, (3, 23, 0, 799, 0)), (797, (1, 0, 0, 0, 0)), (798, (1, 66, 0, 0, 0)), (799, (2, 2, 0, 5, 0))], [(801, (3, 30, 0, 816, 0)), (804, (1, 3, 0, 3, 0)), (805, (1, 0, 0, 0, 0)), (806, (1, 45, 0, 0, 0)), (807, (2, 2, 0, 6, 0)), (809, (1, 15, 0, 0, 0)), (810, (1, 17, 0, 0, 0)), (811, (3, 29, 0, 816, 0)), (814, (1, 0, 0, 0, 0)), (815, (1, 66, 0, 0, 0))], [(816, (3, 22, 0, 2775, 0)), (819, (1, 3, 0, 1, 0)), (820, (1, 3, 0, 0, 0)), (821, (2, 2, 0, 4, 0)), (823, (1, 0, 1, 0, 0)), (824, (1, 9, 0, 0, 0)), (825, (1, 43, 0, 0, 0)), (826, (1, 3, 0, 3, 0)), (827, (3, 56, 1, 282, 3)), (830, (2, 5, 0, 5, 1))], [(832, (1, 3, 0, 2, 0)), (833, (1, 3, 0, 0, 0)), (834, (2, 2, 0, 4, 0)), (836, (1, 0, 1, 0, 0)), (837, (1, 9, 0, 0, 0)), (838, (1, 43, 0, 0, 0)), (839, (3, 55, 1, 226, 2)), (842, (2, 5, 0, 6, 1)), (844, (1, 3, 0, 2, 0)), (845, (3, 55, 1, 160, 1))], [(848, (2, 2, 0, 5, 0)), (850, (3, 23, 0, 855, 0)), (853, (1, 0, 0, 0, 0)), (854, (1, 66, 0, 0, 0)), (855, (2, 2, 0, 5, 0)), (857, (3, 30, 0, 872, 0)), (860, (1, 3, 0, 3, 0)), (861, (1, 0, 0, 0, 0)), (862, (1, 45, 0, 0, 0)), (863, (2, 2, 0, 6, 0))], [(865, (1, 15, 0, 0, 0)), (866, (1, 17, 0, 0, 0)), (867, (3, 29, 0, 872, 0)), (870, (1, 0, 0, 0, 0)), (871, (1, 66, 0, 0, 0)), (872, (3, 22, 0, 2775, 0)), (875, (1, 3, 0, 1, 0)), (876, (1, 3, 0, 0, 0)), (877, (2, 2, 0, 4, 0)), (879, (1, 0, 1, 0, 0))], [(880, (1, 9, 0, 0, 0)), (881, (1, 43, 0, 0, 0)), (882, (1, 3, 0, 3, 0)), (883, (3, 56, 1, 283, 3)), (886, (2, 5, 0, 5, 1)), (888, (1, 3, 0, 2, 0)), (889, (1, 3, 0, 0, 0)), (890, (2, 2, 0, 4, 0)), (892, (1, 0, 1, 0, 0)), (893, (1, 9, 0, 0, 0)), (894, (1, 43, 0, 0, 0)), (895, (3, 55, 1, 227, 2))], [(898, (2, 5, 0, 6, 1)), (900, (1, 3, 0, 2, 0)), (901, (3, 55, 1, 160, 1)), (904, (2, 2, 0, 5, 0)), (906, (3, 23, 0, 911, 0)), (909, (1, 0, 0, 0, 0)), (910, (1, 66, 0, 0, 0)), (911, (2, 2, 0, 5, 0))], [(913, (3, 30, 0, 928, 0)), (916, (1, 3, 0, 3, 0)), (917, (1, 0, 0, 0, 0)), (918, (1, 45, 0, 0, 0)), (919, (2, 2, 0, 6, 0)), (921, (1, 15, 0, 0, 0)), (922, (1, 17, 0, 0, 0)), (923, (3, 29, 0, 928, 0)), (926, (1, 0, 0, 0, 0)), (927, (1, 66, 0, 0, 0))], [(928, (3, 22, 0, 2775, 0)), (931, (1, 3, 0, 1, 0)), (932, (1, 3, 0, 0, 0)), (933, (2, 2, 0, 4, 0)), (935, (1, 0, 1, 0, 0)), (936, (1, 9, 0, 0, 0)), (937, (1, 43, 0, 0, 0)), (938, (1, 3, 0, 0, 0)), (939, (2, 2, 0, 4, 0)), (941, (1, 0, 2, 0, 0)), (942, (1, 9, 0, 0, 0)), (943, (1, 43, 0, 0, 0))], [(944, (1, 3, 0, 0, 0)), (945, (2, 2, 0, 4, 0)), (947, (1, 0, 3, 0, 0)), (948, (1, 9, 0, 0, 0)), (949, (1, 43, 0, 0, 0)), (950, (1, 3, 0, 0, 0)), (951, (2, 2, 0, 4, 0)), (953, (1, 0, 4, 0, 0)), (954, (1, 9, 0, 0, 0)), (955, (1, 43, 0, 0, 0)), (956, (1, 3, 0, 0, 0)), (957, (2, 2, 0, 4, 0)), (959, (1, 0, 5, 0, 0))], [(960, (1, 9, 0, 0, 0)), (961, (1, 43, 0, 0, 0)), (962, (1, 3, 0, 0, 0)), (963, (2, 2, 0, 4, 0)), (965, (2, 0, 6, 0, 0)), (967, (1, 9, 0, 0, 0)), (968, (1, 43, 0, 0, 0)), (969, (1, 3, 0, 0, 0)), (970, (2, 2, 0, 4, 0)), (972, (2, 0, 7, 0, 0)), (974, (1, 9, 0, 0, 0)), (975, (1, 43, 0, 0, 0))], [(976, (1, 3, 0, 0, 0)), (977, (2, 2, 0, 4, 0)), (979, (2, 0, 8, 0, 0)), (981, (1, 9, 0, 0, 0)), (982, (1, 43, 0, 0, 0)), (983, (1, 3, 0, 3, 0)), (984, (3, 56, 1, 284, 10)), (987, (2, 5, 0, 5, 1)), (989, (1, 3, 0, 2, 0)), (990, (1, 3, 0, 0, 0)), (991, (2, 2, 0, 4, 0))], [(993, (1, 0, 1, 0, 0)), (994, (1, 9, 0, 0, 0)), (995, (1, 43, 0, 0, 0)), (996, (1, 3, 0, 0, 0)), (997, (2, 2, 0, 4, 0)), (999, (1, 0, 2, 0, 0)), (1000, (1, 9, 0, 0, 0)), (1001, (1, 43, 0, 0, 0)), (1002, (1, 3, 0, 0, 0)), (1003, (2, 2, 0, 4, 0)), (1005, (1, 0, 3, 0, 0)), (1006, (1, 9, 0, 0, 0)), (1007, (1, 43, 0, 0, 0))], [(1008, (1, 3, 0, 0, 0)), (1009, (2, 2, 0, 4, 0)), (1011, (1, 0, 4, 0, 0)), (1012, (1, 9, 0, 0, 0)), (1013, (1, 43, 0, 0, 0)), (1014, (1, 3, 0, 0, 0)), (1015, (2, 2, 0, 4, 0)), (1017, (1, 0, 5, 0, 0)), (1018, (1, 9, 0, 0, 0)), (1019, (1, 43, 0, 0, 0)), (1020, (1, 3, 0, 0, 0)), (1021, (2, 2, 0, 4, 0)), (1023, (2, 0, 6, 0, 0))]]
def t_L_main_4 : List (List (Nat × pE)) := [[(1025, (1, 9, 0, 0, 0)), (1026, (1, 43, 0, 0, 0)), (1027, (1, 3, 0, 0, 0)), (1028, (2, 2, 0, 4, 0)), (1030, (2, 0, 7, 0, 0)), (1032, (1, 9, 0, 0, 0)), (1033, (1, 43, 0, 0, 0)), (1034, (1, 3, 0, 0, 0)), (1035, (2, 2, 0, 4, 0)), (1037, (2, 0, 8, 0, 0)), (1039, (1, 9, 0, 0, 0))], [(1040, (1, 43, 0, 0, 0)), (1041, (3, 55, 1, 228, 9)), (1044, (2, 5, 0, 6, 1)), (1046, (1, 3, 0, 2, 0)), (1047, (3, 55, 1, 160, 1)), (1050, (2, 2, 0, 5, 0)), (1052, (3, 23, 0, 1057, 0)), (1055, (1, 0, 0, 0, 0))], [(1056, (1, 66, 0, 0, 0)), (1057, (2, 2, 0, 5, 0)), (1059, (3, 30, 0, 1074, 0)), (1062, (1, 3, 0, 3, 0)), (1063, (1, 0, 0, 0, 0)), (1064, (1, 45, 0, 0, 0)), (1065, (2, 2, 0, 6, 0)), (1067, (1, 15, 0, 0, 0)), (1068, (1, 17, 0, 0, 0)), (1069, (3, 29, 0, 1074, 0))], [(1072, (1, 0, 0, 0, 0)), (1073, (1, 66, 0, 0, 0)), (1074, (3, 22, 0, 2775, 0)), (1077, (1, 3, 0, 1, 0)), (1078, (1, 3, 0, 0, 0)), (1079, (2, 2, 0, 4, 0)), (1081, (1, 0, 1, 0, 0)), (1082, (1, 9, 0, 0, 0)), (1083, (1, 43, 0, 0, 0)), (1084, (1, 3, 0, 0, 0)), (1085, (2, 2, 0, 4, 0)), (1087, (1, 0, 2, 0, 0))], [(1088, (1, 9, 0, 0, 0)), (1089, (1, 43, 0, 0, 0)), (1090, (1, 3, 0, 0, 0)), (1091, (2, 2, 0, 4, 0)), (1093, (1, 0, 3, 0, 0)), (1094, (1, 9, 0, 0, 0)), (1095, (1, 43, 0, 0, 0)), (1096, (1, 3, 0, 3, 0)), (1097, (3, 56, 1, 285, 5)), (1100, (2, 5, 0, 5, 1)), (1102, (1, 3, 0, 2, 0)), (1103, (1, 3, 0, 0, 0))], [(1104, (2, 2, 0, 4, 0)), (1106, (1, 0, 1, 0, 0)), (1107, (1, 9, 0, 0, 0)), (1108, (1, 43, 0, 0, 0)), (1109, (1, 3, 0, 0, 0)), (1110, (2, 2, 0, 4, 0)), (1112, (1, 0, 2, 0, 0)), (1113, (1, 9, 0, 0, 0)), (1114, (1, 43, 0, 0, 0)), (1115, (1, 3, 0, 0, 0)), (1116, (2, 2, 0, 4, 0)), (1118, (1, 0, 3, 0, 0)), (1119, (1, 9, 0, 0, 0))], [(1120, (1, 43, 0, 0, 0)), (1121, (3, 55, 1, 230, 4)), (1124, (2, 5, 0, 6, 1)), (1126, (1, 3, 0, 2, 0)), (1127, (3, 55, 1, 160, 1)), (1130, (2, 2, 0, 5, 0)), (1132, (3, 23, 0, 1137, 0)), (1135, (1, 0, 0, 0, 0))], [(1136, (1, 66, 0, 0, 0)), (1137, (2, 2, 0, 5, 0)), (1139, (3, 30, 0, 1154, 0)), (1142, (1, 3, 0, 3, 0)), (1143, (1, 0, 0, 0, 0)), (1144, (1, 45, 0, 0, 0)), (1145, (2, 2, 0, 6, 0)), (1147, (1, 15, 0, 0, 0)), (1148, (1, 17, 0, 0, 0)), (1149, (3, 29, 0, 1154, 0))], [(1152, (1, 0, 0, 0, 0)), (1153, (1, 66, 0, 0, 0)), (1154, (3, 22, 0, 2775, 0)), (1157, (1, 3, 0, 1, 0)), (1158, (1, 3, 0, 0, 0)), (1159, (2, 2, 0, 4, 0)), (1161, (1, 0, 1, 0, 0)), (1162, (1, 9, 0, 0, 0)), (1163, (1, 43, 0, 0, 0)), (1164, (1, 3, 0, 0, 0)), (1165, (2, 2, 0, 4, 0)), (1167, (1, 0, 2, 0, 0))], [(1168, (1, 9, 0, 0, 0)), (1169, (1, 43, 0, 0, 0)), (1170, (1, 3, 0, 3, 0)), (1171, (3, 56, 1, 286, 4)), (1174, (2, 5, 0, 5, 1)), (1176, (1, 3, 0, 2, 0)), (1177, (1, 3, 0, 0, 0)), (1178, (2, 2, 0, 4, 0)), (1180, (1, 0, 1, 0, 0)), (1181, (1, 9, 0, 0, 0)), (1182, (1, 43, 0, 0, 0)), (1183, (1, 3, 0, 0, 0))], [(1184, (2, 2, 0, 4, 0)), (1186, (1, 0, 2, 0, 0)), (1187, (1, 9, 0, 0, 0)), (1188, (1, 43, 0, 0, 0)), (1189, (3, 55, 1, 231, 3)), (1192, (2, 5, 0, 6, 1)), (1194, (1, 3, 0, 2, 0)), (1195, (3, 55, 1, 160, 1)), (1198, (2, 2, 0, 5, 0))], [(1200, (3, 23, 0, 1205, 0)), (1203, (1, 0, 0, 0, 0)), (1204, (1, 66, 0, 0, 0)), (1205, (2, 2, 0, 5, 0)), (1207, (3, 30, 0, 1222, 0)), (1210, (1, 3, 0, 3, 0)), (1211, (1, 0, 0, 0, 0)), (1212, (1, 45, 0, 0, 0)), (1213, (2, 2, 0, 6, 0)), (1215, (1, 15, 0, 0, 0))], [(1216, (1, 17, 0, 0, 0)), (1217, (3, 29, 0, 1222, 0)), (1220, (1, 0, 0, 0, 0)), (1221, (1, 66, 0, 0, 0)), (1222, (3, 22, 0, 2775, 0)), (1225, (1, 3, 0, 1, 0)), (1226, (1, 3, 0, 0, 0)), (1227, (2, 2, 0, 4, 0)), (1229, (1, 0, 1, 0, 0)), (1230, (1, 9, 0, 0, 0)), (1231, (1, 43, 0, 0, 0))], [(1232, (1, 3, 0, 3, 0)), (1233, (3, 56, 1, 287, 3)), (1236, (2, 5, 0, 5, 1)), (1238, (1, 3, 0, 2, 0)), (1239, (1, 3, 0, 0, 0)), (1240, (2, 2, 0, 4, 0)), (1242, (1, 0, 1, 0, 0)), (1243, (1, 9, 0, 0, 0)), (1244, (1, 43, 0, 0, 0)), (1245, (3, 55, 1, 232, 2))], [(1248, (2, 5, 0, 6, 1)), (1250, (1, 3, 0, 2, 0)), (1251, (3, 55, 1, 160, 1)), (1254, (2, 2, 0, 5, 0)), (1256, (3, 23, 0, 1261, 0)), (1259, (1, 0, 0, 0, 0)), (1260, (1, 66, 0, 0, 0)), (1261, (2, 2, 0, 5, 0)), (1263, (3, 30, 0, 1278, 0))], [(1266, (1, 3, 0, 3, 0)), (1267, (1, 0, 0, 0, 0)), (1268, (1, 45, 0, 0, 0)), (1269, (2, 2, 0, 6, 0)), (1271, (1, 15, 0, 0, 0)), (1272, (1, 17, 0, 0, 0)), (1273, (3, 29, 0, 1278, 0)), (1276, (1, 0, 0, 0, 0)), (1277, (1, 66, 0, 0, 0)), (1278, (3, 22, 0, 2775, 0))]]
def t_L_main_5 : List (List (Nat × pE)) := [[(1281, (1, 3, 0, 1, 0)), (1282, (1, 3, 0, 0, 0)), (1283, (2, 2, 0, 4, 0)), (1285, (1, 0, 1, 0, 0)), (1286, (1, 9, 0, 0, 0)), (1287, (1, 43, 0, 0, 0)), (1288, (1, 3, 0, 0, 0)), (1289, (2, 2, 0, 4, 0)), (1291, (1, 0, 2, 0, 0)), (1292, (1, 9, 0, 0, 0)), (1293, (1, 43, 0, 0, 0)), (1294, (1, 3, 0, 3, 0)), (1295, (3, 56, 1, 288, 4))], [(1298, (2, 5, 0, 5, 1)), (1300, (1, 3, 0, 2, 0)), (1301, (1, 3, 0, 0, 0)), (1302, (2, 2, 0, 4, 0)), (1304, (1, 0, 1, 0, 0)), (1305, (1, 9, 0, 0, 0)), (1306, (1, 43, 0, 0, 0)), (1307, (1, 3, 0, 0, 0)), (1308, (2, 2, 0, 4, 0)), (1310, (1, 0, 2, 0, 0)), (1311, (1, 9, 0, 0, 0))], [(1312, (1, 43, 0, 0, 0)), (1313, (3, 55, 1, 233, 3)), (1316, (2, 5, 0, 6, 1)), (1318, (1, 3, 0, 2, 0)), (1319, (3, 55, 1, 160, 1)), (1322, (2, 2, 0, 5, 0)), (1324, (3, 23, 0, 1329, 0)), (1327, (1, 0, 0, 0, 0))], [(1328, (1, 66, 0, 0, 0)), (1329, (2, 2, 0, 5, 0)), (1331, (3, 30, 0, 1346, 0)), (1334, (1, 3, 0, 3, 0)), (1335, (1, 0, 0, 0, 0)), (1336, (1, 45, 0, 0, 0)), (1337, (2, 2, 0, 6, 0)), (1339, (1, 15, 0, 0, 0)), (1340, (1, 17, 0, 0, 0)), (1341, (3, 29, 0, 1346, 0))], [(1344, (1, 0, 0, 0, 0)), (1345, (1, 66, 0, 0, 0)), (1346, (3, 22, 0, 2775, 0)), (1349, (1, 3, 0, 1, 0)), (1350, (1, 3, 0, 0, 0)), (1351, (2, 2, 0, 4, 0)), (1353, (1, 0, 1, 0, 0)), (1354, (1, 9, 0, 0, 0)), (1355, (1, 43, 0, 0, 0)), (1356, (1, 3, 0, 0, 0)), (1357, (2, 2, 0, 4, 0)), (1359, (1, 0, 2, 0, 0))], [(1360, (1, 9, 0, 0, 0)), (1361, (1, 43, 0, 0, 0)), (1362, (1, 3, 0, 3, 0)), (1363, (3, 56, 1, 289, 4)), (1366, (2, 5, 0, 5, 1)), (1368, (1, 3, 0, 2, 0)), (1369, (1, 3, 0, 0, 0)), (1370, (2, 2, 0, 4, 0)), (1372, (1, 0, 1, 0, 0)), (1373, (1, 9, 0, 0, 0)), (1374, (1, 43, 0, 0, 0)), (1375, (1, 3, 0, 0, 0))], [(1376, (2, 2, 0, 4, 0)), (1378, (1, 0, 2, 0, 0)), (1379, (1, 9, 0, 0, 0)), (1380, (1, 43, 0, 0, 0)), (1381, (3, 55, 1, 237, 3)), (1384, (2, 5, 0, 6, 1)), (1386, (1, 3, 0, 2, 0)), (1387, (3, 55, 1, 160, 1)), (1390, (2, 2, 0, 5, 0))], [(1392, (3, 23, 0, 1397, 0)), (1395, (1, 0, 0, 0, 0)), (1396, (1, 66, 0, 0, 0)), (1397, (2, 2, 0, 5, 0)), (1399, (3, 30, 0, 1414, 0)), (1402, (1, 3, 0, 3, 0)), (1403, (1, 0, 0, 0, 0)), (1404, (1, 45, 0, 0, 0)), (1405, (2, 2, 0, 6, 0)), (1407, (1, 15, 0, 0, 0))], [(1408, (1, 17, 0, 0, 0)), (1409, (3, 29, 0, 1414, 0)), (1412, (1, 0, 0, 0, 0)), (1413, (1, 66, 0, 0, 0)), (1414, (3, 22, 0, 2775, 0)), (1417, (1, 3, 0, 1, 0)), (1418, (1, 3, 0, 0, 0)), (1419, (2, 2, 0, 4, 0)), (1421, (1, 0, 1, 0, 0)), (1422, (1, 9, 0, 0, 0)), (1423, (1, 43, 0, 0, 0))], [(1424, (1, 3, 0, 3, 0)), (1425, (3, 56, 1, 290, 3)), (1428, (2, 5, 0, 5, 1)), (1430, (1, 3, 0, 2, 0)), (1431, (1, 3, 0, 0, 0)), (1432, (2, 2, 0, 4, 0)), (1434, (1, 0, 1, 0, 0)), (1435, (1, 9, 0, 0, 0)), (1436, (1, 43, 0, 0, 0)), (1437, (3, 55, 1, 238, 2))], [(1440, (2, 5, 0, 6, 1)), (1442, (1, 3, 0, 2, 0)), (1443, (3, 55, 1, 160, 1)), (1446, (2, 2, 0, 5, 0)), (1448, (3, 23, 0, 1453, 0)), (1451, (1, 0, 0, 0, 0)), (1452, (1, 66, 0, 0, 0)), (1453, (2, 2, 0, 5, 0)), (1455, (3, 30, 0, 1470, 0))], [(1458, (1, 3, 0, 3, 0)), (1459, (1, 0, 0, 0, 0)), (1460, (1, 45, 0, 0, 0)), (1461, (2, 2, 0, 6, 0)), (1463, (1, 15, 0, 0, 0)), (1464, (1, 17, 0, 0, 0)), (1465, (3, 29, 0, 1470, 0)), (1468, (1, 0, 0, 0, 0)), (1469, (1, 66, 0, 0, 0)), (1470, (3, 22, 0, 2775, 0))], [(1473, (1, 3, 0, 1, 0)), (1474, (3, 55, 1, 119, 1)), (1477, (1, 3, 0, 2, 0)), (1478, (3, 55, 1, 240, 1)), (1481, (3, 23, 0, 2775, 0)), (1484, (1, 0, 0, 0, 0)), (1485, (1, 66, 0, 0, 0)), (1486, (1, 3, 0, 1, 0)), (1487, (1, 3, 0, 0, 0))], [(1488, (2, 2, 0, 4, 0)), (1490, (1, 0, 1, 0, 0)), (1491, (1, 9, 0, 0, 0)), (1492, (1, 43, 0, 0, 0)), (1493, (1, 3, 0, 3, 0)), (1494, (3, 56, 1, 291, 3)), (1497, (2, 5, 0, 5, 1)), (1499, (1, 3, 0, 2, 0)), (1500, (1, 3, 0, 0, 0)), (1501, (2, 2, 0, 4, 0)), (1503, (1, 0, 1, 0, 0))], [(1504, (1, 9, 0, 0, 0)), (1505, (1, 43, 0, 0, 0)), (1506, (3, 55, 1, 241, 2)), (1509, (2, 5, 0, 6, 1)), (1511, (1, 3, 0, 2, 0)), (1512, (3, 55, 1, 160, 1)), (1515, (2, 2, 0, 5, 0)), (1517, (3, 23, 0, 1522, 0))], [(1520, (1, 0, 0, 0, 0)), (1521, (1, 66, 0, 0, 0)), (1522, (2, 2, 0, 5, 0)), (1524, (3, 30, 0, 1539, 0)), (1527, (1, 3, 0, 3, 0)), (1528, (1, 0, 0, 0, 0)), (1529, (1, 45, 0, 0, 0)), (1530, (2, 2, 0, 6, 0)), (1532, (1, 15, 0, 0, 0)), (1533, (1, 17, 0, 0, 0)), (1534, (3, 29, 0, 1539, 0))]]
def t_L_main_6 : List (List (Nat × pE)) := [[(1537, (1, 0, 0, 0, 0)), (1538, (1, 66, 0, 0, 0)), (1539, (3, 22, 0, 2775, 0)), (1542, (1, 3, 0, 1, 0)), (1543, (3, 55, 1, 121, 1)), (1546, (1, 3, 0, 2, 0)), (1547, (3, 55, 1, 244, 1)), (1550, (3, 23, 0, 2775, 0))], [(1553, (1, 0, 0, 0, 0)), (1554, (1, 66, 0, 0, 0)), (1555, (1, 3, 0, 1, 0)), (1556, (1, 3, 0, 0, 0)), (1557, (2, 2, 0, 4, 0)), (1559, (1, 0, 1, 0, 0)), (1560, (1, 9, 0, 0, 0)), (1561, (1, 43, 0, 0, 0)), (1562, (1, 3, 0, 3, 0)), (1563, (3, 56, 1, 292, 3)), (1566, (2, 5, 0, 5, 1))], [(1568, (1, 3, 0, 2, 0)), (1569, (1, 3, 0, 0, 0)), (1570, (2, 2, 0, 4, 0)), (1572, (1, 0, 1, 0, 0)), (1573, (1, 9, 0, 0, 0)), (1574, (1, 43, 0, 0, 0)), (1575, (3, 55, 1, 245, 2)), (1578, (2, 5, 0, 6, 1)), (1580, (1, 3, 0, 2, 0)), (1581, (3, 55, 1, 160, 1))], [(1584, (2, 2, 0, 5, 0)), (1586, (3, 23, 0, 1591, 0)), (1589, (1, 0, 0, 0, 0)), (1590, (1, 66, 0, 0, 0)), (1591, (2, 2, 0, 5, 0)), (1593, (3, 30, 0, 1608, 0)), (1596, (1, 3, 0, 3, 0)), (1597, (1, 0, 0, 0, 0)), (1598, (1, 45, 0, 0, 0)), (1599, (2, 2, 0, 6, 0))], [(1601, (1, 15, 0, 0, 0)), (1602, (1, 17, 0, 0, 0)), (1603, (3, 29, 0, 1608, 0)), (1606, (1, 0, 0, 0, 0)), (1607, (1, 66, 0, 0, 0)), (1608, (3, 22, 0, 2775, 0)), (1611, (1, 3, 0, 1, 0)), (1612, (1, 3, 0, 0, 0)), (1613, (2, 2, 0, 4, 0)), (1615, (1, 0, 1, 0, 0))], [(1616, (1, 9, 0, 0, 0)), (1617, (1, 43, 0, 0, 0)), (1618, (1, 3, 0, 0, 0)), (1619, (2, 2, 0, 4, 0)), (1621, (1, 0, 2, 0, 0)), (1622, (1, 9, 0, 0, 0)), (1623, (1, 43, 0, 0, 0)), (1624, (1, 3, 0, 0, 0)), (1625, (2, 2, 0, 4, 0)), (1627, (1, 0, 3, 0, 0)), (1628, (1, 9, 0, 0, 0)), (1629, (1, 43, 0, 0, 0)), (1630, (1, 3, 0, 3, 0)), (1631, (3, 56, 1, 293, 5))], [(1634, (2, 5, 0, 5, 1)), (1636, (1, 3, 0, 2, 0)), (1637, (1, 3, 0, 0, 0)), (1638, (2, 2, 0, 4, 0)), (1640, (1, 0, 1, 0, 0)), (1641, (1, 9, 0, 0, 0)), (1642, (1, 43, 0, 0, 0)), (1643, (1, 3, 0, 0, 0)), (1644, (2, 2, 0, 4, 0)), (1646, (1, 0, 2, 0, 0)), (1647, (1, 9, 0, 0, 0))], [(1648, (1, 43, 0, 0, 0)), (1649, (1, 3, 0, 0, 0)), (1650, (2, 2, 0, 4, 0)), (1652, (1, 0, 3, 0, 0)), (1653, (1, 9, 0, 0, 0)), (1654, (1, 43, 0, 0, 0)), (1655, (3, 55, 2, 246, 4)), (1658, (2, 7, 0, 6, 0)), (1660, (1, 3, 0, 2, 0)), (1661, (3, 55, 1, 160, 1))], [(1664, (2, 2, 0, 5, 0)), (1666, (3, 23, 0, 1671, 0)), (1669, (1, 0, 0, 0, 0)), (1670, (1, 66, 0, 0, 0)), (1671, (2, 2, 0, 5, 0)), (1673, (3, 30, 0, 1687, 0)), (1676, (1, 3, 0, 3, 0)), (1677, (1, 0, 0, 0, 0)), (1678, (1, 45, 0, 0, 0)), (1679, (2, 4, 0, 6, 0))], [(1681, (1, 17, 0, 0, 0)), (1682, (3, 29, 0, 1687, 0)), (1685, (1, 0, 0, 0, 0)), (1686, (1, 66, 0, 0, 0)), (1687, (3, 22, 0, 2775, 0)), (1690, (1, 3, 0, 1, 0)), (1691, (1, 3, 0, 0, 0)), (1692, (2, 2, 0, 4, 0)), (1694, (1, 0, 1, 0, 0)), (1695, (1, 9, 0, 0, 0))], [(1696, (1, 43, 0, 0, 0)), (1697, (1, 3, 0, 0, 0)), (1698, (2, 2, 0, 4, 0)), (1700, (1, 0, 2, 0, 0)), (1701, (1, 9, 0, 0, 0)), (1702, (1, 43, 0, 0, 0)), (1703, (1, 3, 0, 0, 0)), (1704, (2, 2, 0, 4, 0)), (1706, (1, 0, 3, 0, 0)), (1707, (1, 9, 0, 0, 0)), (1708, (1, 43, 0, 0, 0)), (1709, (1, 3, 0, 0, 0)), (1710, (2, 2, 0, 4, 0))], [(1712, (1, 0, 4, 0, 0)), (1713, (1, 9, 0, 0, 0)), (1714, (1, 43, 0, 0, 0)), (1715, (1, 3, 0, 3, 0)), (1716, (3, 56, 1, 294, 6)), (1719, (2, 5, 0, 5, 1)), (1721, (1, 3, 0, 2, 0)), (1722, (1, 3, 0, 0, 0)), (1723, (2, 2, 0, 4, 0)), (1725, (1, 0, 1, 0, 0)), (1726, (1, 9, 0, 0, 0)), (1727, (1, 43, 0, 0, 0))], [(1728, (1, 3, 0, 0, 0)), (1729, (2, 2, 0, 4, 0)), (1731, (1, 0, 2, 0, 0)), (1732, (1, 9, 0, 0, 0)), (1733, (1, 43, 0, 0, 0)), (1734, (1, 3, 0, 0, 0)), (1735, (2, 2, 0, 4, 0)), (1737, (1, 0, 3, 0, 0)), (1738, (1, 9, 0, 0, 0)), (1739, (1, 43, 0, 0, 0)), (1740, (1, 3, 0, 0, 0)), (1741, (2, 2, 0, 4, 0)), (1743, (1, 0, 4, 0, 0))], [(1744, (1, 9, 0, 0, 0)), (1745, (1, 43, 0, 0, 0)), (1746, (3, 55, 1, 248, 5)), (1749, (2, 5, 0, 6, 1)), (1751, (1, 3, 0, 2, 0)), (1752, (3, 55, 1, 160, 1)), (1755, (2, 2, 0, 5, 0)), (1757, (3, 23, 0, 1762, 0))], [(1760, (1, 0, 0, 0, 0)), (1761, (1, 66, 0, 0, 0)), (1762, (2, 2, 0, 5, 0)), (1764, (3, 30, 0, 1779, 0)), (1767, (1, 3, 0, 3, 0)), (1768, (1, 0, 0, 0, 0)), (1769, (1, 45, 0, 0, 0)), (1770, (2, 2, 0, 6, 0)), (1772, (1, 15, 0, 0, 0)), (1773, (1, 17, 0, 0, 0)), (1774, (3, 29, 0, 1779, 0))], [(1777, (1, 0, 0, 0, 0)), (1778, (1, 66, 0, 0, 0)), (1779, (3, 22, 0, 2775, 0)), (1782, (1, 3, 0, 1, 0)), (1783, (1, 3, 0, 0, 0)), (1784, (2, 2, 0, 4, 0)), (1786, (1, 0, 1, 0, 0)), (1787, (1, 9, 0, 0, 0)), (1788, (1, 43, 0, 0, 0)), (1789, (1, 3, 0, 0, 0)), (1790, (2, 2, 0, 4, 0))]]
def t_L_main_7 : List (List (Nat × pE)) := [[(1792, (1, 0, 2, 0, 0)), (1793, (1, 9, 0, 0, 0)), (1794, (1, 43, 0, 0, 0)), (1795, (1, 3, 0, 0, 0)), (1796, (2, 2, 0, 4, 0)), (1798, (1, 0, 3, 0, 0)), (1799, (1, 9, 0, 0, 0)), (1800, (1, 43, 0, 0, 0)), (1801, (1, 3, 0, 3, 0)), (1802, (3, 56, 1, 295, 5)), (1805, (2, 5, 0, 5, 1)), (1807, (1, 3, 0, 2, 0))], [(1808, (1, 3, 0, 0, 0)), (1809, (2, 2, 0, 4, 0)), (1811, (1, 0, 1, 0, 0)), (1812, (1, 9, 0, 0, 0)), (1813, (1, 43, 0, 0, 0)), (1814, (1, 3, 0, 0, 0)), (1815, (2, 2, 0, 4, 0)), (1817, (1, 0, 2, 0, 0)), (1818, (1, 9, 0, 0, 0)), (1819, (1, 43, 0, 0, 0)), (1820, (1, 3, 0, 0, 0)), (1821, (2, 2, 0, 4, 0)), (1823, (1, 0, 3, 0, 0))], [(1824, (1, 9, 0, 0, 0)), (1825, (1, 43, 0, 0, 0)), (1826, (3, 55, 1, 250, 4)), (1829, (2, 5, 0, 6, 1)), (1831, (1, 3, 0, 2, 0)), (1832, (3, 55, 1, 160, 1)), (1835, (2, 2, 0, 5, 0)), (1837, (3, 23, 0, 1842, 0))], [(1840, (1, 0, 0, 0, 0)), (1841, (1, 66, 0, 0, 0)), (1842, (2, 2, 0, 5, 0)), (1844, (3, 30, 0, 1859, 0)), (1847, (1, 3, 0, 3, 0)), (1848, (1, 0, 0, 0, 0)), (1849, (1, 45, 0, 0, 0)), (1850, (2, 2, 0, 6, 0)), (1852, (1, 15, 0, 0, 0)), (1853, (1, 17, 0, 0, 0)), (1854, (3, 29, 0, 1859, 0))], [(1857, (1, 0, 0, 0, 0)), (1858, (1, 66, 0, 0, 0)), (1859, (3, 22, 0, 2775, 0)), (1862, (1, 3, 0, 1, 0)), (1863, (1, 3, 0, 0, 0)), (1864, (2, 2, 0, 4, 0)), (1866, (1, 0, 1, 0, 0)), (1867, (1, 9, 0, 0, 0)), (1868, (1, 43, 0, 0, 0)), (1869, (1, 3, 0, 3, 0)), (1870, (3, 56, 1, 296, 3))], [(1873, (2, 5, 0, 5, 1)), (1875, (1, 3, 0, 2, 0)), (1876, (1, 3, 0, 0, 0)), (1877, (2, 2, 0, 4, 0)), (1879, (1, 0, 1, 0, 0)), (1880, (1, 9, 0, 0, 0)), (1881, (1, 43, 0, 0, 0)), (1882, (3, 55, 1, 251, 2)), (1885, (2, 5, 0, 6, 1)), (1887, (1, 3, 0, 2, 0))], [(1888, (3, 55, 1, 160, 1)), (1891, (2, 2, 0, 5, 0)), (1893, (3, 23, 0, 1898, 0)), (1896, (1, 0, 0, 0, 0)), (1897, (1, 66, 0, 0, 0)), (1898, (2, 2, 0, 5, 0)), (1900, (3, 30, 0, 1915, 0)), (1903, (1, 3, 0, 3, 0))], [(1904, (1, 0, 0, 0, 0)), (1905, (1, 45, 0, 0, 0)), (1906, (2, 2, 0, 6, 0)), (1908, (1, 15, 0, 0, 0)), (1909, (1, 17, 0, 0, 0)), (1910, (3, 29, 0, 1915, 0)), (1913, (1, 0, 0, 0, 0)), (1914, (1, 66, 0, 0, 0)), (1915, (3, 22, 0, 2775, 0)), (1918, (1, 3, 0, 1, 0)), (1919, (1, 3, 0, 0, 0))], [(1920, (2, 2, 0, 4, 0)), (1922, (1, 0, 1, 0, 0)), (1923, (1, 9, 0, 0, 0)), (1924, (1, 43, 0, 0, 0)), (1925, (1, 3, 0, 3, 0)), (1926, (3, 56, 1, 297, 3)), (1929, (2, 5, 0, 5, 1)), (1931, (1, 3, 0, 2, 0)), (1932, (1, 3, 0, 0, 0)), (1933, (2, 2, 0, 4, 0)), (1935, (1, 0, 1, 0, 0))], [(1936, (1, 9, 0, 0, 0)), (1937, (1, 43, 0, 0, 0)), (1938, (3, 55, 1, 252, 2)), (1941, (2, 5, 0, 6, 1)), (1943, (1, 3, 0, 2, 0)), (1944, (3, 55, 1, 160, 1)), (1947, (2, 2, 0, 5, 0)), (1949, (3, 23, 0, 1954, 0))], [(1952, (1, 0, 0, 0, 0)), (1953, (1, 66, 0, 0, 0)), (1954, (2, 2, 0, 5, 0)), (1956, (3, 30, 0, 1971, 0)), (1959, (1, 3, 0, 3, 0)), (1960, (1, 0, 0, 0, 0)), (1961, (1, 45, 0, 0, 0)), (1962, (2, 2, 0, 6, 0)), (1964, (1, 15, 0, 0, 0)), (1965, (1, 17, 0, 0, 0)), (1966, (3, 29, 0, 1971, 0))], [(1969, (1, 0, 0, 0, 0)), (1970, (1, 66, 0, 0, 0)), (1971, (3, 22, 0, 2775, 0)), (1974, (1, 3, 0, 1, 0)), (1975, (1, 3, 0, 0, 0)), (1976, (2, 2, 0, 4, 0)), (1978, (1, 0, 1, 0, 0)), (1979, (1, 9, 0, 0, 0)), (1980, (1, 43, 0, 0, 0)), (1981, (1, 3, 0, 3, 0)), (1982, (3, 56, 1, 298, 3))], [(1985, (2, 5, 0, 5, 1)), (1987, (1, 3, 0, 2, 0)), (1988, (1, 3, 0, 0, 0)), (1989, (2, 2, 0, 4, 0)), (1991, (1, 0, 1, 0, 0)), (1992, (1, 9, 0, 0, 0)), (1993, (1, 43, 0, 0, 0)), (1994, (3, 55, 1, 253, 2)), (1997, (2, 5, 0, 6, 1)), (1999, (1, 3, 0, 2, 0))], [(2000, (3, 55, 1, 160, 1)), (2003, (2, 2, 0, 5, 0)), (2005, (3, 23, 0, 2010, 0)), (2008, (1, 0, 0, 0, 0)), (2009, (1, 66, 0, 0, 0)), (2010, (2, 2, 0, 5, 0)), (2012, (3, 30, 0, 2027, 0)), (2015, (1, 3, 0, 3, 0))], [(2016, (1, 0, 0, 0, 0)), (2017, (1, 45, 0, 0, 0)), (2018, (2, 2, 0, 6, 0)), (2020, (1, 15, 0, 0, 0)), (2021, (1, 17, 0, 0, 0)), (2022, (3, 29, 0, 2027, 0)), (2025, (1, 0, 0, 0, 0)), (2026, (1, 66, 0, 0, 0)), (2027, (3, 22, 0, 2775, 0)), (2030, (1, 3, 0, 1, 0)), (2031, (1, 3, 0, 0, 0))], [(2032, (2, 2, 0, 4, 0)), (2034, (1, 0, 1, 0, 0)), (2035, (1, 9, 0, 0, 0)), (2036, (1, 43, 0, 0, 0)), (2037, (1, 3, 0, 3, 0)), (2038, (3, 56, 1, 299, 3)), (2041, (2, 5, 0, 5, 1)), (2043, (1, 3, 0, 2, 0)), (2044, (1, 3, 0, 0, 0)), (2045, (2, 2, 0, 4, 0)), (2047, (1, 0, 1, 0, 0))]]
def t_L_main_8 : List (List (Nat × pE)) := [[(2048, (1, 9, 0, 0, 0)), (2049, (1, 43, 0, 0, 0)), (2050, (3, 55, 1, 254, 2)), (2053, (2, 5, 0, 6, 1)), (2055, (1, 3, 0, 2, 0)), (2056, (3, 55, 1, 160, 1)), (2059, (2, 2, 0, 5, 0)), (2061, (3, 23, 0, 2066, 0))], [(2064, (1, 0, 0, 0, 0)), (2065, (1, 66, 0, 0, 0)), (2066, (2, 2, 0, 5, 0)), (2068, (3, 30, 0, 2083, 0)), (2071, (1, 3, 0, 3, 0)), (2072, (1, 0, 0, 0, 0)), (2073, (1, 45, 0, 0, 0)), (2074, (2, 2, 0, 6, 0)), (2076, (1, 15, 0, 0, 0)), (2077, (1, 17, 0, 0, 0)), (2078, (3, 29, 0, 2083, 0))], [(2081, (1, 0, 0, 0, 0)), (2082, (1, 66, 0, 0, 0)), (2083, (3, 22, 0, 2775, 0)), (2086, (1, 3, 0, 1, 0)), (2087, (1, 3, 0, 0, 0)), (2088, (2, 2, 0, 4, 0)), (2090, (1, 0, 1, 0, 0)), (2091, (1, 9, 0, 0, 0)), (2092, (1, 43, 0, 0, 0)), (2093, (1, 3, 0, 3, 0)), (2094, (3, 56, 1, 300, 3))], [(2097, (2, 5, 0, 5, 1)), (2099, (1, 3, 0, 2, 0)), (2100, (1, 3, 0, 0, 0)), (2101, (2, 2, 0, 4, 0)), (2103, (1, 0, 1, 0, 0)), (2104, (1, 9, 0, 0, 0)), (2105, (1, 43, 0, 0, 0)), (2106, (3, 55, 1, 255, 2)), (2109, (2, 5, 0, 6, 1)), (2111, (1, 3, 0, 2, 0))], [(2112, (3, 55, 1, 160, 1)), (2115, (2, 2, 0, 5, 0)), (2117, (3, 23, 0, 2122, 0)), (2120, (1, 0, 0, 0, 0)), (2121, (1, 66, 0, 0, 0)), (2122, (2, 2, 0, 5, 0)), (2124, (3, 30, 0, 2139, 0)), (2127, (1, 3, 0, 3, 0))], [(2128, (1, 0, 0, 0, 0)), (2129, (1, 45, 0, 0, 0)), (2130, (2, 2, 0, 6, 0)), (2132, (1, 15, 0, 0, 0)), (2133, (1, 17, 0, 0, 0)), (2134, (3, 29, 0, 2139, 0)), (2137, (1, 0, 0, 0, 0)), (2138, (1, 66, 0, 0, 0)), (2139, (3, 22, 0, 2775, 0)), (2142, (1, 3, 0, 1, 0)), (2143, (1, 3, 0, 0, 0))], [(2144, (2, 2, 0, 4, 0)), (2146, (1, 0, 1, 0, 0)), (2147, (1, 9, 0, 0, 0)), (2148, (1, 43, 0, 0, 0)), (2149, (1, 3, 0, 3, 0)), (2150, (3, 56, 1, 301, 3)), (2153, (2, 5, 0, 5, 1)), (2155, (1, 3, 0, 2, 0)), (2156, (1, 3, 0, 0, 0)), (2157, (2, 2, 0, 4, 0)), (2159, (1, 0, 1, 0, 0))], [(2160, (1, 9, 0, 0, 0)), (2161, (1, 43, 0, 0, 0)), (2162, (3, 55, 1, 256, 2)), (2165, (2, 5, 0, 6, 1)), (2167, (1, 3, 0, 2, 0)), (2168, (3, 55, 1, 160, 1)), (2171, (2, 2, 0, 5, 0)), (2173, (3, 23, 0, 2178, 0))], [(2176, (1, 0, 0, 0, 0)), (2177, (1, 66, 0, 0, 0)), (2178, (2, 2, 0, 5, 0)), (2180, (3, 30, 0, 2195, 0)), (2183, (1, 3, 0, 3, 0)), (2184, (1, 0, 0, 0, 0)), (2185, (1, 45, 0, 0, 0)), (2186, (2, 2, 0, 6, 0)), (2188, (1, 15, 0, 0, 0)), (2189, (1, 17, 0, 0, 0)), (2190, (3, 29, 0, 2195, 0))], [(2193, (1, 0, 0, 0, 0)), (2194, (1, 66, 0, 0, 0)), (2195, (3, 22, 0, 2775, 0)), (2198, (1, 3, 0, 1, 0)), (2199, (1, 3, 0, 0, 0)), (2200, (2, 2, 0, 4, 0)), (2202, (1, 0, 1, 0, 0)), (2203, (1, 9, 0, 0, 0)), (2204, (1, 43, 0, 0, 0)), (2205, (1, 3, 0, 3, 0)), (2206, (3, 56, 1, 302, 3))], [(2209, (2, 5, 0, 5, 1)), (2211, (1, 3, 0, 2, 0)), (2212, (1, 3, 0, 0, 0)), (2213, (2, 2, 0, 4, 0)), (2215, (1, 0, 1, 0, 0)), (2216, (1, 9, 0, 0, 0)), (2217, (1, 43, 0, 0, 0)), (2218, (3, 55, 1, 257, 2)), (2221, (2, 5, 0, 6, 1)), (2223, (1, 3, 0, 2, 0))], [(2224, (3, 55, 1, 160, 1)), (2227, (2, 2, 0, 5, 0)), (2229, (3, 23, 0, 2234, 0)), (2232, (1, 0, 0, 0, 0)), (2233, (1, 66, 0, 0, 0)), (2234, (2, 2, 0, 5, 0)), (2236, (3, 30, 0, 2251, 0)), (2239, (1, 3, 0, 3, 0))], [(2240, (1, 0, 0, 0, 0)), (2241, (1, 45, 0, 0, 0)), (2242, (2, 2, 0, 6, 0)), (2244, (1, 15, 0, 0, 0)), (2245, (1, 17, 0, 0, 0)), (2246, (3, 29, 0, 2251, 0)), (2249, (1, 0, 0, 0, 0)), (2250, (1, 66, 0, 0, 0)), (2251, (3, 22, 0, 2775, 0)), (2254, (1, 3, 0, 1, 0)), (2255, (1, 3, 0, 0, 0))], [(2256, (2, 2, 0, 4, 0)), (2258, (1, 0, 1, 0, 0)), (2259, (1, 9, 0, 0, 0)), (2260, (1, 43, 0, 0, 0)), (2261, (1, 3, 0, 0, 0)), (2262, (2, 2, 0, 4, 0)), (2264, (1, 0, 2, 0, 0)), (2265, (1, 9, 0, 0, 0)), (2266, (1, 43, 0, 0, 0)), (2267, (1, 3, 0, 3, 0)), (2268, (3, 56, 1, 303, 4)), (2271, (2, 5, 0, 5, 1))], [(2273, (1, 3, 0, 2, 0)), (2274, (1, 3, 0, 0, 0)), (2275, (2, 2, 0, 4, 0)), (2277, (1, 0, 1, 0, 0)), (2278, (1, 9, 0, 0, 0)), (2279, (1, 43, 0, 0, 0)), (2280, (1, 3, 0, 0, 0)), (2281, (2, 2, 0, 4, 0)), (2283, (1, 0, 2, 0, 0)), (2284, (1, 9, 0, 0, 0)), (2285, (1, 43, 0, 0, 0)), (2286, (3, 55, 1, 258, 3))], [(2289, (2, 5, 0, 6, 1)), (2291, (1, 3, 0, 2, 0)), (2292, (3, 55, 1, 160, 1)), (2295, (2, 2, 0, 5, 0)), (2297, (3, 23, 0, 2302, 0)), (2300, (1, 0, 0, 0, 0)), (2301, (1, 66, 0, 0, 0)), (2302, (2, 2, 0, 5, 0))]]
def t_L_main_9 : List (List (Nat × pE)) := [[(2304, (3, 30, 0, 2319, 0)), (2307, (1, 3, 0, 3, 0)), (2308, (1, 0, 0, 0, 0)), (2309, (1, 45, 0, 0, 0)), (2310, (2, 2, 0, 6, 0)), (2312, (1, 15, 0, 0, 0)), (2313, (1, 17, 0, 0, 0)), (2314, (3, 29, 0, 2319, 0)), (2317, (1, 0, 0, 0, 0)), (2318, (1, 66, 0, 0, 0)), (2319, (3, 22, 0, 2775, 0))], [(2322, (1, 3, 0, 1, 0)), (2323, (3, 55, 1, 132, 1)), (2326, (1, 3, 0, 2, 0)), (2327, (3, 55, 1, 259, 1)), (2330, (3, 23, 0, 2775, 0)), (2333, (1, 0, 0, 0, 0)), (2334, (1, 66, 0, 0, 0)), (2335, (1, 3, 0, 1, 0))], [(2336, (1, 3, 0, 0, 0)), (2337, (2, 2, 0, 4, 0)), (2339, (1, 0, 1, 0, 0)), (2340, (1, 9, 0, 0, 0)), (2341, (1, 43, 0, 0, 0)), (2342, (1, 3, 0, 3, 0)), (2343, (3, 56, 1, 304, 3)), (2346, (2, 5, 0, 5, 1)), (2348, (1, 3, 0, 2, 0)), (2349, (1, 3, 0, 0, 0)), (2350, (2, 2, 0, 4, 0))], [(2352, (1, 0, 1, 0, 0)), (2353, (1, 9, 0, 0, 0)), (2354, (1, 43, 0, 0, 0)), (2355, (3, 55, 1, 260, 2)), (2358, (2, 5, 0, 6, 1)), (2360, (1, 3, 0, 2, 0)), (2361, (3, 55, 1, 160, 1)), (2364, (2, 2, 0, 5, 0)), (2366, (3, 23, 0, 2371, 0))], [(2369, (1, 0, 0, 0, 0)), (2370, (1, 66, 0, 0, 0)), (2371, (2, 2, 0, 5, 0)), (2373, (3, 30, 0, 2388, 0)), (2376, (1, 3, 0, 3, 0)), (2377, (1, 0, 0, 0, 0)), (2378, (1, 45, 0, 0, 0)), (2379, (2, 2, 0, 6, 0)), (2381, (1, 15, 0, 0, 0)), (2382, (1, 17, 0, 0, 0)), (2383, (3, 29, 0, 2388, 0))], [(2386, (1, 0, 0, 0, 0)), (2387, (1, 66, 0, 0, 0)), (2388, (3, 22, 0, 2775, 0)), (2391, (1, 3, 0, 1, 0)), (2392, (1, 3, 0, 0, 0)), (2393, (2, 2, 0, 4, 0)), (2395, (1, 0, 1, 0, 0)), (2396, (1, 9, 0, 0, 0)), (2397, (1, 43, 0, 0, 0)), (2398, (1, 3, 0, 3, 0)), (2399, (3, 56, 1, 305, 3))], [(2402, (2, 5, 0, 5, 1)), (2404, (1, 3, 0, 2, 0)), (2405, (1, 3, 0, 0, 0)), (2406, (2, 2, 0, 4, 0)), (2408, (1, 0, 1, 0, 0)), (2409, (1, 9, 0, 0, 0)), (2410, (1, 43, 0, 0, 0)), (2411, (3, 55, 1, 261, 2)), (2414, (2, 5, 0, 6, 1))], [(2416, (1, 3, 0, 2, 0)), (2417, (3, 55, 1, 160, 1)), (2420, (2, 2, 0, 5, 0)), (2422, (3, 23, 0, 2427, 0)), (2425, (1, 0, 0, 0, 0)), (2426, (1, 66, 0, 0, 0)), (2427, (2, 2, 0, 5, 0)), (2429, (3, 30, 0, 2444, 0))], [(2432, (1, 3, 0, 3, 0)), (2433, (1, 0, 0, 0, 0)), (2434, (1, 45, 0, 0, 0)), (2435, (2, 2, 0, 6, 0)), (2437, (1, 15, 0, 0, 0)), (2438, (1, 17, 0, 0, 0)), (2439, (3, 29, 0, 2444, 0)), (2442, (1, 0, 0, 0, 0)), (2443, (1, 66, 0, 0, 0)), (2444, (3, 22, 0, 2775, 0)), (2447, (1, 3, 0, 1, 0))], [(2448, (1, 3, 0, 0, 0)), (2449, (2, 2, 0, 4, 0)), (2451, (1, 0, 1, 0, 0)), (2452, (1, 9, 0, 0, 0)), (2453, (1, 43, 0, 0, 0)), (2454, (1, 3, 0, 3, 0)), (2455, (3, 56, 1, 306, 3)), (2458, (2, 5, 0, 5, 1)), (2460, (1, 3, 0, 2, 0)), (2461, (1, 3, 0, 0, 0)), (2462, (2, 2, 0, 4, 0))], [(2464, (1, 0, 1, 0, 0)), (2465, (1, 9, 0, 0, 0)), (2466, (1, 43, 0, 0, 0)), (2467, (3, 55, 1, 262, 2)), (2470, (2, 5, 0, 6, 1)), (2472, (1, 3, 0, 2, 0)), (2473, (3, 55, 1, 160, 1)), (2476, (2, 2, 0, 5, 0)), (2478, (3, 23, 0, 2483, 0))], [(2481, (1, 0, 0, 0, 0)), (2482, (1, 66, 0, 0, 0)), (2483, (2, 2, 0, 5, 0)), (2485, (3, 30, 0, 2500, 0)), (2488, (1, 3, 0, 3, 0)), (2489, (1, 0, 0, 0, 0)), (2490, (1, 45, 0, 0, 0)), (2491, (2, 2, 0, 6, 0)), (2493, (1, 15, 0, 0, 0)), (2494, (1, 17, 0, 0, 0)), (2495, (3, 29, 0, 2500, 0))], [(2498, (1, 0, 0, 0, 0)), (2499, (1, 66, 0, 0, 0)), (2500, (3, 22, 0, 2775, 0)), (2503, (1, 3, 0, 1, 0)), (2504, (1, 3, 0, 0, 0)), (2505, (2, 2, 0, 4, 0)), (2507, (1, 0, 1, 0, 0)), (2508, (1, 9, 0, 0, 0)), (2509, (1, 43, 0, 0, 0)), (2510, (1, 3, 0, 0, 0)), (2511, (2, 2, 0, 4, 0))], [(2513, (1, 0, 2, 0, 0)), (2514, (1, 9, 0, 0, 0)), (2515, (1, 43, 0, 0, 0)), (2516, (1, 3, 0, 0, 0)), (2517, (2, 2, 0, 4, 0)), (2519, (1, 0, 3, 0, 0)), (2520, (1, 9, 0, 0, 0)), (2521, (1, 43, 0, 0, 0)), (2522, (1, 3, 0, 0, 0)), (2523, (2, 2, 0, 4, 0)), (2525, (1, 0, 4, 0, 0)), (2526, (1, 9, 0, 0, 0)), (2527, (1, 43, 0, 0, 0))], [(2528, (1, 3, 0, 3, 0)), (2529, (3, 56, 1, 307, 6)), (2532, (2, 5, 0, 5, 1)), (2534, (1, 3, 0, 2, 0)), (2535, (1, 3, 0, 0, 0)), (2536, (2, 2, 0, 4, 0)), (2538, (1, 0, 1, 0, 0)), (2539, (1, 9, 0, 0, 0)), (2540, (1, 43, 0, 0, 0)), (2541, (1, 3, 0, 0, 0)), (2542, (2, 2, 0, 4, 0))], [(2544, (1, 0, 2, 0, 0)), (2545, (1, 9, 0, 0, 0)), (2546, (1, 43, 0, 0, 0)), (2547, (1, 3, 0, 0, 0)), (2548, (2, 2, 0, 4, 0)), (2550, (1, 0, 3, 0, 0)), (2551, (1, 9, 0, 0, 0)), (2552, (1, 43, 0, 0, 0)), (2553, (1, 3, 0, 0, 0)), (2554, (2, 2, 0, 4, 0)), (2556, (1, 0, 4, 0, 0)), (2557, (1, 9, 0, 0, 0)), (2558, (1, 43, 0, 0, 0)), (2559, (3, 55, 1, 266, 5))]]
def t_L_main_10 : List (List (Nat × pE)) := [[(2562, (2, 5, 0, 6, 1)), (2564, (1, 3, 0, 2, 0)), (2565, (3, 55, 1, 160, 1)), (2568, (2, 2, 0, 5, 0)), (2570, (3, 23, 0, 2575, 0)), (2573, (1, 0, 0, 0, 0)), (2574, (1, 66, 0, 0, 0)), (2575, (2, 2, 0, 5, 0))], [(2577, (3, 30, 0, 2592, 0)), (2580, (1, 3, 0, 3, 0)), (2581, (1, 0, 0, 0, 0)), (2582, (1, 45, 0, 0, 0)), (2583, (2, 2, 0, 6, 0)), (2585, (1, 15, 0, 0, 0)), (2586, (1, 17, 0, 0, 0)), (2587, (3, 29, 0, 2592, 0)), (2590, (1, 0, 0, 0, 0)), (2591, (1, 66, 0, 0, 0))], [(2592, (3, 22, 0, 2775, 0)), (2595, (1, 3, 0, 1, 0)), (2596, (1, 3, 0, 0, 0)), (2597, (2, 2, 0, 4, 0)), (2599, (1, 0, 1, 0, 0)), (2600, (1, 9, 0, 0, 0)), (2601, (1, 43, 0, 0, 0)), (2602, (1, 3, 0, 0, 0)), (2603, (2, 2, 0, 4, 0)), (2605, (1, 0, 2, 0, 0)), (2606, (1, 9, 0, 0, 0)), (2607, (1, 43, 0, 0, 0))], [(2608, (1, 3, 0, 0, 0)), (2609, (2, 2, 0, 4, 0)), (2611, (1, 0, 3, 0, 0)), (2612, (1, 9, 0, 0, 0)), (2613, (1, 43, 0, 0, 0)), (2614, (1, 3, 0, 0, 0)), (2615, (2, 2, 0, 4, 0)), (2617, (1, 0, 4, 0, 0)), (2618, (1, 9, 0, 0, 0)), (2619, (1, 43, 0, 0, 0)), (2620, (1, 3, 0, 0, 0)), (2621, (2, 2, 0, 4, 0)), (2623, (1, 0, 5, 0, 0))], [(2624, (1, 9, 0, 0, 0)), (2625, (1, 43, 0, 0, 0)), (2626, (1, 3, 0, 3, 0)), (2627, (3, 56, 1, 308, 7)), (2630, (2, 5, 0, 5, 1)), (2632, (1, 3, 0, 2, 0)), (2633, (1, 3, 0, 0, 0)), (2634, (2, 2, 0, 4, 0)), (2636, (1, 0, 1, 0, 0)), (2637, (1, 9, 0, 0, 0)), (2638, (1, 43, 0, 0, 0)), (2639, (1, 3, 0, 0, 0))], [(2640, (2, 2, 0, 4, 0)), (2642, (1, 0, 2, 0, 0)), (2643, (1, 9, 0, 0, 0)), (2644, (1, 43, 0, 0, 0)), (2645, (1, 3, 0, 0, 0)), (2646, (2, 2, 0, 4, 0)), (2648, (1, 0, 3, 0, 0)), (2649, (1, 9, 0, 0, 0)), (2650, (1, 43, 0, 0, 0)), (2651, (1, 3, 0, 0, 0)), (2652, (2, 2, 0, 4, 0)), (2654, (1, 0, 4, 0, 0)), (2655, (1, 9, 0, 0, 0))], [(2656, (1, 43, 0, 0, 0)), (2657, (1, 3, 0, 0, 0)), (2658, (2, 2, 0, 4, 0)), (2660, (1, 0, 5, 0, 0)), (2661, (1, 9, 0, 0, 0)), (2662, (1, 43, 0, 0, 0)), (2663, (3, 55, 1, 267, 6)), (2666, (2, 5, 0, 6, 1)), (2668, (1, 3, 0, 2, 0)), (2669, (3, 55, 1, 160, 1))], [(2672, (2, 2, 0, 5, 0)), (2674, (3, 23, 0, 2679, 0)), (2677, (1, 0, 0, 0, 0)), (2678, (1, 66, 0, 0, 0)), (2679, (2, 2, 0, 5, 0)), (2681, (3, 30, 0, 2696, 0)), (2684, (1, 3, 0, 3, 0)), (2685, (1, 0, 0, 0, 0)), (2686, (1, 45, 0, 0, 0)), (2687, (2, 2, 0, 6, 0))], [(2689, (1, 15, 0, 0, 0)), (2690, (1, 17, 0, 0, 0)), (2691, (3, 29, 0, 2696, 0)), (2694, (1, 0, 0, 0, 0)), (2695, (1, 66, 0, 0, 0)), (2696, (3, 22, 0, 2775, 0)), (2699, (1, 3, 0, 1, 0)), (2700, (3, 55, 1, 101, 1)), (2703, (1, 3, 0, 2, 0))], [(2704, (3, 55, 1, 270, 1)), (2707, (3, 23, 0, 2775, 0)), (2710, (1, 0, 0, 0, 0)), (2711, (1, 66, 0, 0, 0)), (2712, (1, 3, 0, 1, 0)), (2713, (3, 55, 1, 102, 1)), (2716, (1, 3, 0, 2, 0)), (2717, (3, 55, 1, 271, 1))], [(2720, (3, 23, 0, 2775, 0)), (2723, (1, 0, 0, 0, 0)), (2724, (1, 66, 0, 0, 0)), (2725, (1, 3, 0, 1, 0)), (2726, (1, 3, 0, 0, 0)), (2727, (2, 2, 0, 4, 0)), (2729, (1, 0, 1, 0, 0)), (2730, (1, 9, 0, 0, 0)), (2731, (1, 43, 0, 0, 0)), (2732, (3, 55, 1, 137, 2)), (2735, (1, 3, 0, 2, 0))], [(2736, (1, 3, 0, 0, 0)), (2737, (2, 2, 0, 4, 0)), (2739, (1, 0, 1, 0, 0)), (2740, (1, 9, 0, 0, 0)), (2741, (1, 43, 0, 0, 0)), (2742, (3, 55, 1, 272, 2)), (2745, (3, 23, 0, 2775, 0)), (2748, (1, 0, 0, 0, 0)), (2749, (1, 66, 0, 0, 0)), (2750, (1, 3, 0, 1, 0)), (2751, (1, 3, 0, 0, 0))], [(2752, (2, 2, 0, 4, 0)), (2754, (1, 0, 1, 0, 0)), (2755, (1, 9, 0, 0, 0)), (2756, (1, 43, 0, 0, 0)), (2757, (3, 55, 1, 138, 2)), (2760, (1, 3, 0, 2, 0)), (2761, (1, 3, 0, 0, 0)), (2762, (2, 2, 0, 4, 0)), (2764, (1, 0, 1, 0, 0)), (2765, (1, 9, 0, 0, 0)), (2766, (1, 43, 0, 0, 0)), (2767, (3, 55, 1, 273, 2))], [(2770, (3, 23, 0, 2775, 0)), (2773, (1, 0, 0, 0, 0)), (2774, (1, 66, 0, 0, 0)), (2775, (3, 8, 9, 4, 1)), (2778, (3, 22, 0, 23, 0)), (2781, (1, 0, 1, 0, 0)), (2782, (1, 66, 0, 0, 0))]]
def t_L_main : List (List (Nat × pE)) := t_L_main_0 ++ (t_L_main_1 ++ (t_L_main_2 ++ (t_L_main_3 ++ (t_L_main_4 ++ (t_L_main_5 ++ (t_L_main_6 ++ (t_L_main_7 ++ (t_L_main_8 ++ (t_L_main_9 ++ (t_L_main_10))))))))))
abbrev m_J_bitCount : Nat := 310
def t_J_bitCount : List (List (Nat × pE)) := [[(0, (1, 2, 0, 0, 0)), (1, (1, 2, 0, 0, 0)), (2, (1, 0, 1, 0, 0)), (3, (1, 9, 0, 0, 5)), (4, (3, 0, 1431655765, 0, 0)), (7, (1, 9, 0, 0, 6)), (8, (1, 9, 0, 0, 1)), (9, (1, 5, 0, 0, 0)), (10, (1, 2, 0, 0, 0)), (11, (3, 0, 858993459, 0, 0)), (14, (1, 9, 0, 0, 6)), (15, (1, 2, 0, 0, 0))], [(16, (1, 0, 2, 0, 0)), (17, (1, 9, 0, 0, 5)), (18, (3, 0, 858993459, 0, 0)), (21, (1, 9, 0, 0, 6)), (22, (1, 9, 0, 0, 0)), (23, (1, 5, 0, 0, 0)), (24, (1, 2, 0, 0, 0)), (25, (1, 2, 0, 0, 0)), (26, (1, 0, 4, 0, 0)), (27, (1, 9, 0, 0, 5)), (28, (1, 9, 0, 0, 0)), (29, (3, 0, 252645135, 0, 0))], [(32, (1, 9, 0, 0, 6)), (33, (1, 5, 0, 0, 0)), (34, (1, 2, 0, 0, 0)), (35, (1, 2, 0, 0, 0)), (36, (2, 0, 8, 0, 0)), (38, (1, 9, 0, 0, 5)), (39, (1, 9, 0, 0, 0)), (40, (1, 5, 0, 0, 0)), (41, (1, 2, 0, 0, 0)), (42, (1, 2, 0, 0, 0)), (43, (2, 0, 16, 0, 0)), (45, (1, 9, 0, 0, 5)), (46, (1, 9, 0, 0, 0)), (47, (1, 5, 0, 0, 0))], [(48, (1, 2, 0, 0, 0)), (49, (2, 0, 63, 0, 0)), (51, (1, 9, 0, 0, 6)), (52, (1, 62, 0, 0, 0))]]
abbrev m_J_fill : Nat := 311
def t_J_fill : List (List (Nat × pE)) := [[(0, (1, 0, 0, 0, 0)), (1, (1, 5, 0, 2, 0)), (2, (1, 3, 0, 0, 0)), (3, (1, 49, 0, 0, 0)), (4, (1, 5, 0, 3, 0)), (5, (1, 2, 0, 2, 0)), (6, (1, 2, 0, 3, 0)), (7, (3, 26, 0, 20, 0)), (10, (1, 3, 0, 0, 0)), (11, (1, 2, 0, 2, 0)), (12, (1, 2, 0, 1, 0)), (13, (1, 44, 0, 0, 0)), (14, (3, 8, 1, 2, 0))], [(17, (3, 22, 0, 5, 0)), (20, (1, 65, 0, 0, 0))]]
def pG_0 : List (List (List (Nat × pE))) := [t_Bk_init, t_Bk_hasLine, t_Bk_amountOn, t_Bk_read, t_Bk_readLine, t_Lw_init, t_Lw_askPlace, t_Lw_askPerson, t_Lw_askTime, t_Lw_result, t_Lw_valueOf, t_Lw_join, t_Lw_read, t_Lw_readSum, t_Lw_readProduct, t_Lw_readUnit]
def pG_1 : List (List (List (Nat × pE))) := [t_Lw_readBracket, t_Lw_readPair, t_Lw_variableNamed, t_Lw_add, t_Mo_init, t_Pk_init, t_Pk_isFound, t_Pk_search, t_Pk_lay, t_Pl_init, t_Pl_weigh, t_Pl_mostFrom, t_Pl_togetherBy, t_Pl_together, t_Pl_seatOf, t_Pl_leastSeat]
def pG_2 : List (List (List (Nat × pE))) := [t_Sc_init, t_Sc_take, t_Sc_letSit, t_Sc_letRise, t_Sc_giveMeal, t_Sc_drawCurtain, t_Sc_passDay, t_Sc_markOn, t_Sc_markToday, t_Sc_firstMark, t_Sc_sits, t_Sc_whoSits, t_Sc_whoIsOn, t_Sc_cellOf, t_Sc_amount, t_Sc_onSeat]
def pG_3 : List (List (List (Nat × pE))) := [t_Sc_onPlate, t_Sc_allOf, t_Sc_selvesOf, t_Sc_seenOn, t_Sc_whereSeen, t_Sc_unseen, t_Sd_init, t_Sd_nextBelow, t_Su_init, t_Su_read, t_Su_readClause, t_Su_hasRoom, t_Su_readSeat, t_Su_readSitter, t_Su_readSitting, t_Su_readYear]
def pG_4 : List (List (List (Nat × pE))) := [t_Su_readFood, t_Tp_init, t_Tp_hasRoom, t_Tp_put, t_Tp_open, t_Tp_faultAnswer, t_Tp_peek, t_Tp_skip, t_Tp_sign, t_Tp_readWord, t_Tp_wordIs, t_Tp_readNumber, t_Tp_failHere, t_Tp_failAtStart, t_Tp_startHere, t_Tp_byteAt]
def pG_5 : List (List (List (Nat × pE))) := [t_Tp_isLetter, t_Tp_isDigit, t_Wk_init, t_Wk_read, t_Wk_readStep, t_Wk_readNumbered, t_Wk_readAgain, t_Wk_readEnd, t_Wk_add, t_Wk_run, t_Wk_intoAgain, t_Wk_behindRound, t_Wk_tryStep, t_Y_init, t_Y_feed, t_Y_studio]
def pG_6 : List (List (List (Nat × pE))) := [t_Y_law, t_Y_work, t_Y_book, t_Y_fault, t_Y_undo, t_Y_image, t_Y_restore, t_Y_told, t_Y_seat, t_Y_sitter, t_Y_plate, t_Y_sitting, t_Y_mark, t_Y_would, t_Y_share, t_Y_ahead]
def pG_7 : List (List (List (Nat × pE))) := [t_Y_when, t_Y_meals, t_Y_need, t_Y_rising, t_Y_gains, t_Y_goings, t_Y_bright, t_Y_places, t_Y_placed, t_Y_packing, t_Y_packed, t_Y_well, t_Y_getsUp, t_Y_food, t_Y_darkest, t_Y_stillest]
def pG_8 : List (List (List (Nat × pE))) := [t_Y_stains, t_Y_hungriest, t_Y_brightest, t_Y_empty, t_Y_absent, t_Y_crowd, t_Y_lead, t_Y_season, t_Y_span, t_Y_status, t_Y_count, t_Y_refuseArgument, t_Y_refuseElement, t_Y_needRange, t_Y_needSeat, t_Y_needSitter]
def pG_9 : List (List (List (Nat × pE))) := [t_Y_needSitting, t_Y_openText, t_Y_begin, t_Y_momentNow, t_Y_goBack, t_Y_mealsFor, t_Y_daysOn, t_Y_choices, t_Y_givenWithin, t_Y_has, t_Y_rests, t_Y_playSeason, t_Y_playDrawnSteps, t_Y_pick, t_Y_hasBit, t_Y_greatestCommon]
def pG_10 : List (List (List (Nat × pE))) := [t_R_thrown, t_R_may, t_R_within, t_R_init, t_R_feed, t_R_fine, t_R_wrong, t_R_here, t_R_isSmall, t_R_isDigit, t_R_word, t_R_of, t_R_pass, t_R_readNumber, t_R_sign, t_R_isMore]
def pG_11 : List (List (List (Nat × pE))) := [t_R_begins, t_R_result, t_R_fault, t_R_copies, t_R_clears, t_R_sets, t_R_isShort, t_R_isFull, t_R_readRow, t_R_studio, t_R_emit, t_R_opensOne, t_R_readSum, t_R_readProduct, t_R_readTwo, t_R_standsHere]
def pG_12 : List (List (List (Nat × pE))) := [t_R_factHere, t_R_readUnit, t_R_law, t_R_valueNow, t_R_both, t_R_markNow, t_R_tellsStep, t_R_readStep, t_R_work, t_R_goesSteps, t_R_take, t_R_markOf, t_R_sitsAll, t_R_ones, t_R_markBy, t_R_onSeat]
def pG_13 : List (List (List (Nat × pE))) := [t_R_rises, t_R_sits, t_R_feeds, t_R_goes, t_R_passes, t_R_allOn, t_R_allOnPlate, t_R_seenOn, t_R_unseen, t_R_book, t_R_undo, t_R_told, t_R_isSeat, t_R_isSitter, t_R_seat, t_R_ofHim]
def pG_14 : List (List (List (Nat × pE))) := [t_R_sitter, t_R_plate, t_R_sitting, t_R_mark, t_R_would, t_R_least, t_R_share, t_R_ahead, t_R_when, t_R_meals, t_R_mealsOf, t_R_firstMark, t_R_among, t_R_goings, t_R_bright, t_R_layPlaces]
def pG_15 : List (List (List (Nat × pE))) := [t_R_places, t_R_placed, t_R_lays, t_R_findPacking, t_R_packing, t_R_packed, t_R_well, t_R_hasBy, t_R_getsUp, t_R_givenBy, t_R_food, t_R_darkest, t_R_stillest, t_R_stains, t_R_hungriest, t_R_brightest]
def pG_16 : List (List (List (Nat × pE))) := [t_R_empty, t_R_rising, t_R_gains, t_R_absent, t_R_crowd, t_R_need, t_R_lead, t_R_draws, t_R_seasonGoes, t_R_isSeason, t_R_season, t_R_span, t_R_keepsRow, t_R_keepsAll, t_R_image, t_R_restore]
def pG_17 : List (List (List (Nat × pE))) := [t_R_status, t_R_count, t_L_studio, t_L_law, t_L_work, t_L_book, t_L_told, t_L_seat, t_L_sitter, t_L_plate, t_L_sitting, t_L_mark, t_L_would, t_L_share, t_L_ahead, t_L_when]
def pG_18 : List (List (List (Nat × pE))) := [t_L_meals, t_L_goings, t_L_bright, t_L_placed, t_L_packed, t_L_well, t_L_getsUp, t_L_food, t_L_darkest, t_L_stillest, t_L_stains, t_L_hungriest, t_L_brightest, t_L_empty, t_L_rising, t_L_gains]
def pG_19 : List (List (List (Nat × pE))) := [t_L_crowd, t_L_need, t_L_lead, t_L_season, t_L_span, t_L_main, t_J_bitCount, t_J_fill]
def pMs : List (List (List (List (Nat × pE)))) := [pG_0, pG_1, pG_2, pG_3, pG_4, pG_5, pG_6, pG_7, pG_8, pG_9, pG_10, pG_11, pG_12, pG_13, pG_14, pG_15, pG_16, pG_17, pG_18, pG_19]
def lkE : List (Nat × pE) → Nat → Option pE
  | [], _ => none
  | (p, e) :: r, q => bif Nat.beq p q then some e else lkE r q
def pTb (M pc : Nat) : Option pE := match pMs[M / 16]? with
  | none => none
  | some g => (match g[M % 16]? with
    | none => none
    | some c => (match c[pc / 16]? with
      | none => none
      | some r => lkE r pc))
def pSw : List (List (Int32 × Nat) × Nat) := [([(1008, 40), (1009, 44), (1010, 48), (1011, 52), (1012, 64), (1013, 76)], 82), ([(0, 36), (1, 53), (2, 64), (3, 75)], 92), ([(0, 60), (1, 68), (2, 76), (3, 84), (4, 92), (5, 100), (6, 108), (7, 116), (8, 121), (9, 129), (10, 137)], 145), ([(0, 36), (1, 46), (2, 55), (3, 64)], 73), ([(0, 52), (1, 62), (2, 72), (3, 82), (4, 92), (5, 102), (6, 111), (7, 120)], 129), ([(0, 76), (1, 84)], 92), ([(0, 152), (1, 155)], 158), ([(0, 60), (1, 68), (2, 76)], 84), ([(0, 156), (1, 159)], 162), ([(0, 28), (1, 33)], 38), ([(0, 28), (1, 33), (2, 41)], 46), ([(0, 236), (1, 309), (2, 365), (3, 421), (4, 477), (5, 533), (6, 546), (7, 559), (8, 615), (9, 683), (10, 751), (11, 819), (12, 875), (13, 931), (14, 1077), (15, 1157), (16, 1225), (17, 1281), (18, 1349), (19, 1417), (20, 1473), (21, 1486), (22, 1542), (23, 1555), (24, 1611), (25, 1690), (26, 1782), (27, 1862), (28, 1918), (29, 1974), (30, 2030), (31, 2086), (32, 2142), (33, 2198), (34, 2254), (35, 2322), (36, 2335), (37, 2391), (38, 2447), (39, 2503), (40, 2595), (41, 2699), (42, 2712), (43, 2725), (44, 2750)], 2775)]
def pML : List (List Nat) := [[1, 2, 2, 4, 5, 1, 4, 4, 3, 4, 3, 3, 2, 5, 5, 5], [3, 4, 1, 2, 4, 2, 1, 1, 5, 1, 5, 5, 4, 1, 5, 4], [2, 2, 3, 2, 2, 3, 6, 6, 4, 4, 2, 3, 3, 2, 3, 4], [3, 4, 4, 4, 4, 4, 2, 2, 1, 3, 3, 4, 3, 4, 3, 2], [2, 1, 1, 3, 2, 1, 1, 1, 2, 1, 3, 4, 1, 2, 1, 2], [1, 1, 1, 6, 3, 7, 3, 3, 4, 7, 2, 3, 4, 1, 6, 3], [3, 3, 3, 1, 1, 1, 2, 2, 3, 3, 3, 2, 2, 9, 7, 4], [4, 3, 4, 2, 4, 8, 6, 1, 2, 2, 3, 11, 11, 5, 6, 5], [6, 5, 5, 5, 3, 4, 6, 5, 11, 2, 2, 1, 1, 4, 2, 2], [2, 3, 2, 2, 2, 5, 5, 6, 5, 5, 5, 6, 4, 3, 2, 6], [1, 4, 3, 1, 8, 1, 3, 1, 1, 1, 4, 3, 1, 6, 2, 1], [2, 2, 1, 5, 1, 2, 1, 3, 3, 5, 3, 2, 2, 2, 3, 3], [2, 2, 3, 4, 3, 2, 4, 4, 4, 6, 1, 9, 3, 3, 3, 3], [2, 3, 2, 4, 4, 4, 3, 3, 3, 6, 2, 2, 3, 3, 3, 6], [3, 3, 2, 2, 9, 11, 5, 4, 4, 3, 6, 3, 5, 9, 4, 6], [1, 5, 4, 3, 1, 2, 9, 5, 10, 5, 5, 5, 4, 8, 4, 4], [4, 3, 3, 3, 4, 4, 6, 2, 6, 2, 5, 11, 6, 4, 1, 1], [2, 2, 4, 4, 4, 4, 4, 5, 5, 5, 4, 4, 11, 6, 5, 4], [5, 5, 4, 4, 4, 6, 7, 6, 4, 4, 4, 4, 4, 4, 4, 5], [4, 4, 4, 7, 8, 8, 1, 4]]
def mxL (M : Nat) : Nat := (pML.getD (M / 16) []).getD (M % 16) 0
def ent (M : Nat) (as : List Value) : List Value := entN (mxL M) as
/-- whose method it is -/
def mOl : List (List Nat) := [[0, 0, 0, 0, 0, 1, 1, 1, 1, 1, 1, 1, 1, 1, 1, 1], [1, 1, 1, 1, 2, 3, 3, 3, 3, 4, 4, 4, 4, 4, 4, 4], [5, 5, 5, 5, 5, 5, 5, 5, 5, 5, 5, 5, 5, 5, 5, 5], [5, 5, 5, 5, 5, 5, 6, 6, 7, 7, 7, 7, 7, 7, 7, 7], [7, 8, 8, 8, 8, 8, 8, 8, 8, 8, 8, 8, 8, 8, 8, 8], [8, 8, 9, 9, 9, 9, 9, 9, 9, 9, 9, 9, 9, 10, 10, 10], [10, 10, 10, 10, 10, 10, 10, 10, 10, 10, 10, 10, 10, 10, 10, 10], [10, 10, 10, 10, 10, 10, 10, 10, 10, 10, 10, 10, 10, 10, 10, 10], [10, 10, 10, 10, 10, 10, 10, 10, 10, 10, 10, 10, 10, 10, 10, 10], [10, 10, 10, 10, 10, 10, 10, 10, 10, 10, 10, 10, 10, 10, 10, 10], [11, 11, 11, 11, 11, 11, 11, 11, 11, 11, 11, 11, 11, 11, 11, 11], [11, 11, 11, 11, 11, 11, 11, 11, 11, 11, 11, 11, 11, 11, 11, 11], [11, 11, 11, 11, 11, 11, 11, 11, 11, 11, 11, 11, 11, 11, 11, 11], [11, 11, 11, 11, 11, 11, 11, 11, 11, 11, 11, 11, 11, 11, 11, 11], [11, 11, 11, 11, 11, 11, 11, 11, 11, 11, 11, 11, 11, 11, 11, 11], [11, 11, 11, 11, 11, 11, 11, 11, 11, 11, 11, 11, 11, 11, 11, 11], [11, 11, 11, 11, 11, 11, 11, 11, 11, 11, 11, 11, 11, 11, 11, 11], [11, 11, 12, 12, 12, 12, 12, 12, 12, 12, 12, 12, 12, 12, 12, 12], [12, 12, 12, 12, 12, 12, 12, 12, 12, 12, 12, 12, 12, 12, 12, 12], [12, 12, 12, 12, 12, 12, 13, 15]]
def mO (M : Nat) : Nat := (mOl.getD (M / 16) []).getD (M % 16) 99
/-- methods with a long among their locals -/
def mJl : List Nat := [117, 123, 151, 229, 236, 237, 246, 309]
def mJ (M : Nat) : Bool := mJl.contains M
def pHl : List (List (Nat × Nat × Nat × Nat)) := [[(0, 9, 12, 0)], [(0, 9, 12, 0)], [(0, 9, 12, 0)], [(0, 9, 12, 0)], [(0, 9, 12, 0)], [(0, 10, 13, 1), (0, 10, 17, 0)], [(0, 10, 13, 1), (0, 10, 17, 0)], [(0, 10, 13, 1)], [(0, 9, 12, 1)], [(0, 9, 12, 1)], [(0, 22, 25, 0)], [(0, 12, 15, 1), (0, 12, 19, 0)], [(0, 10, 13, 0)], [(0, 9, 12, 1)], [(0, 10, 13, 1), (0, 10, 17, 0)], [(0, 10, 13, 1), (0, 10, 17, 0)], [(0, 9, 12, 1)], [(0, 9, 12, 1)], [(0, 9, 12, 1)], [(0, 11, 14, 0)], [(0, 14, 17, 0)], [(0, 12, 15, 1), (0, 12, 19, 0)], [(0, 9, 12, 0)], [(0, 9, 12, 0)], [(0, 9, 12, 0)], [(0, 9, 12, 0)], [(0, 9, 12, 0)], [(0, 9, 12, 0)], [(0, 9, 12, 1)], [(0, 10, 13, 1)], [(0, 9, 12, 1)], [(0, 9, 12, 0)], [(0, 9, 12, 1)], [(0, 14, 17, 0)], [(0, 16, 19, 0)]]
def hnd (M : Nat) : List (Nat × Nat × Nat × Nat) := bif Nat.blt M 274 then [] else pHl.getD (M - 274) []
def pStr : List (List Int32) := [[115, 101, 97, 116], [115, 105, 116, 116, 101, 114], [115, 105, 116, 116, 105, 110, 103], [121, 101, 97, 114], [102, 111, 111, 100], [108, 101, 97, 115, 116], [109, 111, 115, 116], [108, 105, 103, 104, 116], [100, 97, 114, 107], [115, 116, 105, 108, 108], [104, 117, 110, 103, 101, 114], [115, 101, 97, 116], [115, 105, 116, 116, 101, 114], [111, 116, 104, 101, 114, 115], [100, 97, 121], [115, 105, 116], [114, 105, 115, 101], [102, 101, 101, 100], [99, 117, 114, 116, 97, 105, 110], [100, 97, 121], [97, 103, 97, 105, 110], [115, 105, 116, 116, 105, 110, 103], [115, 101, 97, 116], [115, 105, 116, 116, 101, 114], [121, 101, 97, 114], [102, 111, 111, 100], [108, 101, 97, 115, 116], [109, 111, 115, 116], [108, 105, 103, 104, 116], [100, 97, 114, 107], [115, 116, 105, 108, 108], [104, 117, 110, 103, 101, 114], [111, 116, 104, 101, 114, 115], [100, 97, 121], [99, 117, 114, 116, 97, 105, 110], [115, 105, 116], [114, 105, 115, 101], [102, 101, 101, 100], [97, 103, 97, 105, 110]]
def pD0 : List (List Value) := [[.null, .int 0, .int 0], [.null, .null, .null, .int 0], [.null, .null, .int 0], [.null, .null, .null, .null, .int 0], [.null, .null, .int 0, .int 0], [.null, .null, .null, .null, .null, .null, .int 0, .int 0], [.int 0], [.null, .null, .null, .null, .int 0, .int 0, .int 0, .int 0, .int 0], [.null, .int 0, .int 0, .int 0, .int 0, .int 0, .int 0], [.null, .null, .null, .null, .null, .int 0, .int 0, .int 0, .int 0], [.null, .null, .null, .null, .null, .null, .null, .null, .null, .int 0, .int 0, .int 0, .int 0, .int 0], [.int 0, .null, .int 0, .int 0, .int 0, .int 0, .int 0, .int 0, .int 0, .null, .null, .null, .null, .null, .null, .null, .null, .int 0, .int 0, .int 0, .int 0, .int 0, .int 0, .int 0, .int 0, .int 0, .null, .null, .null, .null, .null, .int 0, .int 0, .null, .null, .null, .int 0, .int 0, .int 0, .int 0, .int 0, .int 0, .null, .null, .null, .null, .null, .null, .int 0, .null, .null, .null, .int 0, .null, .int 0]]
end
section
/-! WHAT THE WORDS SAY, by program (gen4.py): methods, fields, links by number, each with its word among the good ones of the tables -/
def wT : List Cond := lw_tbl.filter goodWord
theorem wT_in {w : Cond} (i : Nat) (h : lw_tbl[i]? = some w) (g : goodWord w = true) : w ∈ wT := List.mem_filter.mpr ⟨List.mem_of_getElem? h, g⟩
theorem wT_good {w : Cond} (h : w ∈ wT) : goodWord w = true := (List.mem_filter.mp h).2
theorem wT_tbl {w : Cond} (h : w ∈ wT) : w ∈ lw_tbl := (List.mem_filter.mp h).1
/-- a row of words by their places -/
theorem wT_all {α : Type} (F : α → Cond) (l : List (Nat × α)) (h : l.all (fun q => decide (lw_tbl[q.1]? = some (F q.2)) && goodWord (F q.2)) = true) : ∀ q ∈ l, F q.2 ∈ wT := by
  intro q hq
  have h1 := List.all_eq_true.mp h q hq
  simp only [Bool.and_eq_true, decide_eq_true_eq] at h1
  exact wT_in q.1 h1.1 h1.2
def owS : List String := [RX0, RX1, RX2, RX3, RX4, RX5, RX6, RX7, RX8, RX9, RX10, RX11, RL, RJ6, RJ9, RJ7]
def oS (i : Nat) : String := owS.getD i ""
def fW (r : Nat × Nat × Nat × Nat) : Cond := match vwCl[r.2.2.1]? with
  | some q => .fieldLink (oS r.1) r.2.1 (q.2.1 r.2.2.2).1 (q.2.1 r.2.2.2).2.1 (q.2.1 r.2.2.2).2.2.1
  | none => .tt
def FLp : List (Nat × Nat × Nat × Nat × Nat) := [(264, 0, 9, 0, 0), (265, 0, 15, 0, 1), (266, 0, 48, 0, 2), (245, 1, 9, 1, 0), (246, 1, 15, 1, 1), (247, 1, 18, 1, 2), (248, 1, 21, 1, 3), (404, 2, 7, 2, 0), (406, 2, 13, 2, 1), (408, 2, 17, 2, 2), (495, 3, 9, 3, 1), (496, 3, 15, 3, 2), (497, 3, 18, 3, 3), (499, 3, 21, 3, 4), (494, 3, 25, 3, 0), (213, 3, 33, 7, 6), (200, 3, 44, 7, 3), (216, 3, 47, 7, 7), (170, 4, 9, 4, 0), (171, 4, 15, 4, 1), (202, 4, 24, 7, 4), (172, 4, 30, 4, 2), (207, 4, 31, 7, 5), (173, 4, 34, 4, 3), (289, 5, 9, 5, 1), (291, 5, 15, 5, 2), (293, 5, 18, 5, 3), (295, 5, 21, 5, 4), (297, 5, 24, 5, 5), (287, 5, 27, 5, 0), (192, 5, 31, 7, 0), (219, 5, 46, 7, 8), (301, 5, 50, 5, 7), (298, 5, 51, 5, 6), (211, 5, 71, 7, 5), (197, 5, 87, 7, 2), (194, 5, 99, 7, 1), (206, 5, 115, 7, 4), (1335, 6, 7, 6, 0), (191, 7, 9, 7, 0), (193, 7, 15, 7, 1), (196, 7, 18, 7, 2), (199, 7, 21, 7, 3), (215, 7, 24, 7, 7), (218, 7, 28, 7, 8), (203, 7, 55, 7, 4), (210, 7, 68, 7, 5), (212, 7, 76, 7, 6), (139, 8, 9, 8, 0), (142, 8, 15, 8, 2), (140, 8, 19, 8, 1), (145, 8, 22, 8, 4), (146, 8, 25, 8, 5), (147, 8, 28, 8, 6), (144, 8, 31, 8, 3), (848, 9, 11, 9, 0), (849, 9, 15, 9, 1), (850, 9, 18, 9, 2), (851, 9, 21, 9, 3), (852, 9, 26, 9, 4), (853, 9, 33, 9, 5), (208, 9, 55, 7, 5), (204, 9, 60, 7, 4), (854, 9, 96, 9, 6), (856, 9, 114, 9, 7), (858, 9, 117, 9, 8), (300, 9, 135, 5, 6), (320, 10, 10, 10, 0), (321, 10, 19, 10, 1), (322, 10, 25, 10, 2), (323, 10, 32, 10, 3), (324, 10, 39, 10, 4), (325, 10, 46, 10, 5), (326, 10, 55, 10, 6), (327, 10, 59, 10, 7), (141, 10, 70, 8, 1), (209, 10, 89, 7, 5), (329, 10, 93, 10, 9), (328, 10, 106, 10, 8), (857, 10, 114, 9, 8), (331, 10, 117, 10, 11), (855, 10, 120, 9, 7), (205, 10, 123, 7, 4), (267, 10, 129, 0, 2), (143, 10, 132, 8, 2), (330, 10, 139, 10, 10), (214, 10, 142, 7, 6), (299, 10, 145, 5, 6), (302, 10, 148, 5, 7), (217, 10, 160, 7, 7), (290, 10, 169, 5, 1), (195, 10, 186, 7, 1), (198, 10, 189, 7, 2), (292, 10, 192, 5, 2), (294, 10, 195, 5, 3), (296, 10, 198, 5, 4), (201, 10, 217, 7, 3), (500, 10, 310, 3, 4), (498, 10, 313, 3, 3), (332, 10, 340, 10, 12), (333, 10, 343, 10, 13), (405, 10, 361, 2, 0), (407, 10, 364, 2, 1), (409, 10, 365, 2, 2), (1379, 11, 3, 11, 0), (1380, 11, 7, 11, 1), (1387, 11, 17, 11, 8), (1388, 11, 20, 11, 9), (1389, 11, 23, 11, 10), (1390, 11, 26, 11, 11), (1391, 11, 29, 11, 12), (1392, 11, 32, 11, 13), (1393, 11, 35, 11, 14), (1394, 11, 38, 11, 15), (1395, 11, 41, 11, 16), (1405, 11, 44, 11, 26), (1406, 11, 47, 11, 27), (1407, 11, 50, 11, 28), (1408, 11, 53, 11, 29), (1409, 11, 56, 11, 30), (1412, 11, 59, 11, 33), (1413, 11, 62, 11, 34), (1414, 11, 65, 11, 35), (1421, 11, 68, 11, 42), (1422, 11, 71, 11, 43), (1423, 11, 74, 11, 44), (1424, 11, 77, 11, 45), (1425, 11, 80, 11, 46), (1426, 11, 83, 11, 47), (1428, 11, 86, 11, 49), (1429, 11, 89, 11, 50), (1430, 11, 92, 11, 51), (1432, 11, 95, 11, 53), (1381, 11, 104, 11, 2), (1384, 11, 107, 11, 5), (1385, 11, 110, 11, 6), (1383, 11, 113, 11, 4), (1382, 11, 116, 11, 3), (1386, 11, 147, 11, 7), (1396, 11, 150, 11, 17), (1397, 11, 153, 11, 18), (1398, 11, 156, 11, 19), (1399, 11, 159, 11, 20), (1400, 11, 162, 11, 21), (1401, 11, 165, 11, 22), (1402, 11, 168, 11, 23), (1403, 11, 171, 11, 24), (1404, 11, 174, 11, 25), (1411, 11, 181, 11, 32), (1427, 11, 184, 11, 48), (1416, 11, 187, 11, 37), (1433, 11, 190, 11, 54), (1417, 11, 193, 11, 38), (1410, 11, 253, 11, 31), (1415, 11, 299, 11, 36), (1418, 11, 322, 11, 39), (1419, 11, 325, 11, 40), (1420, 11, 328, 11, 41), (1431, 11, 427, 11, 52)]
def FLs : List (Nat × Nat × Nat × Nat) := FLp.map (·.2)
set_option maxRecDepth 100000 in
theorem FL_ok : ∀ r ∈ FLs, fW r ∈ wT := by
  intro r hr
  obtain ⟨q, hq, rfl⟩ := List.mem_map.mp hr
  exact wT_all fW FLp (by decide +kernel) q hq
def mI_0 : List (MethodName × ByteArray × Option FieldType) := [(yX0_init, cX0_init, none), (yX0_hasLine, cX0_hasLine, some .boolean), (yX0_amountOn, cX0_amountOn, some .int), (yX0_read, cX0_read, some .boolean), (yX0_readLine, cX0_readLine, some .boolean), (yX1_init, cX1_init, none), (yX1_askPlace, cX1_askPlace, none), (yX1_askPerson, cX1_askPerson, none), (yX1_askTime, cX1_askTime, none), (yX1_result, cX1_result, some .int), (yX1_valueOf, cX1_valueOf, some .int), (yX1_join, cX1_join, some .int), (yX1_read, cX1_read, some .boolean), (yX1_readSum, cX1_readSum, some .boolean), (yX1_readProduct, cX1_readProduct, some .boolean), (yX1_readUnit, cX1_readUnit, some .boolean)]
def mI_1 : List (MethodName × ByteArray × Option FieldType) := [(yX1_readBracket, cX1_readBracket, some .boolean), (yX1_readPair, cX1_readPair, some .boolean), (yX1_variableNamed, cX1_variableNamed, some .int), (yX1_add, cX1_add, some .boolean), (yX2_init, cX2_init, none), (yX3_init, cX3_init, none), (yX3_isFound, cX3_isFound, some .boolean), (yX3_search, cX3_search, none), (yX3_lay, cX3_lay, none), (yX4_init, cX4_init, none), (yX4_weigh, cX4_weigh, none), (yX4_mostFrom, cX4_mostFrom, some .int), (yX4_togetherBy, cX4_togetherBy, some .int), (yX4_together, cX4_together, some .int), (yX4_seatOf, cX4_seatOf, some .int), (yX4_leastSeat, cX4_leastSeat, some .int)]
def mI_2 : List (MethodName × ByteArray × Option FieldType) := [(yX5_init, cX5_init, none), (yX5_take, cX5_take, none), (yX5_letSit, cX5_letSit, some .boolean), (yX5_letRise, cX5_letRise, some .boolean), (yX5_giveMeal, cX5_giveMeal, some .boolean), (yX5_drawCurtain, cX5_drawCurtain, some .boolean), (yX5_passDay, cX5_passDay, none), (yX5_markOn, cX5_markOn, some .int), (yX5_markToday, cX5_markToday, some .int), (yX5_firstMark, cX5_firstMark, some .int), (yX5_sits, cX5_sits, some .boolean), (yX5_whoSits, cX5_whoSits, some .int), (yX5_whoIsOn, cX5_whoIsOn, some .int), (yX5_cellOf, cX5_cellOf, some .int), (yX5_amount, cX5_amount, some .int), (yX5_onSeat, cX5_onSeat, some .int)]
def mI_3 : List (MethodName × ByteArray × Option FieldType) := [(yX5_onPlate, cX5_onPlate, some .int), (yX5_allOf, cX5_allOf, some .int), (yX5_selvesOf, cX5_selvesOf, some .int), (yX5_seenOn, cX5_seenOn, some .int), (yX5_whereSeen, cX5_whereSeen, some .int), (yX5_unseen, cX5_unseen, some .int), (yX6_init, cX6_init, none), (yX6_nextBelow, cX6_nextBelow, some .int), (yX7_init, cX7_init, none), (yX7_read, cX7_read, some .boolean), (yX7_readClause, cX7_readClause, some .boolean), (yX7_hasRoom, cX7_hasRoom, some .boolean), (yX7_readSeat, cX7_readSeat, some .boolean), (yX7_readSitter, cX7_readSitter, some .boolean), (yX7_readSitting, cX7_readSitting, some .boolean), (yX7_readYear, cX7_readYear, some .boolean)]
def mI_4 : List (MethodName × ByteArray × Option FieldType) := [(yX7_readFood, cX7_readFood, some .boolean), (yX8_init, cX8_init, none), (yX8_hasRoom, cX8_hasRoom, some .boolean), (yX8_put, cX8_put, none), (yX8_open, cX8_open, none), (yX8_faultAnswer, cX8_faultAnswer, some .int), (yX8_peek, cX8_peek, some .int), (yX8_skip, cX8_skip, none), (yX8_sign, cX8_sign, some .boolean), (yX8_readWord, cX8_readWord, some .boolean), (yX8_wordIs, cX8_wordIs, some .boolean), (yX8_readNumber, cX8_readNumber, some .int), (yX8_failHere, cX8_failHere, some .boolean), (yX8_failAtStart, cX8_failAtStart, some .boolean), (yX8_startHere, cX8_startHere, none), (yX8_byteAt, cX8_byteAt, some .int)]
def mI_5 : List (MethodName × ByteArray × Option FieldType) := [(yX8_isLetter, cX8_isLetter, some .boolean), (yX8_isDigit, cX8_isDigit, some .boolean), (yX9_init, cX9_init, none), (yX9_read, cX9_read, some .boolean), (yX9_readStep, cX9_readStep, some .boolean), (yX9_readNumbered, cX9_readNumbered, some .boolean), (yX9_readAgain, cX9_readAgain, some .boolean), (yX9_readEnd, cX9_readEnd, some .boolean), (yX9_add, cX9_add, some .boolean), (yX9_run, cX9_run, none), (yX9_intoAgain, cX9_intoAgain, some .int), (yX9_behindRound, cX9_behindRound, some .int), (yX9_tryStep, cX9_tryStep, some .boolean), (yX10_init, cX10_init, none), (yX10_feed, cX10_feed, some .int), (yX10_studio, cX10_studio, some .int)]
def mI_6 : List (MethodName × ByteArray × Option FieldType) := [(yX10_law, cX10_law, some .int), (yX10_work, cX10_work, some .int), (yX10_book, cX10_book, some .int), (yX10_fault, cX10_fault, some .int), (yX10_undo, cX10_undo, some .int), (yX10_image, cX10_image, some .int), (yX10_restore, cX10_restore, some .int), (yX10_told, cX10_told, some .int), (yX10_seat, cX10_seat, some .int), (yX10_sitter, cX10_sitter, some .int), (yX10_plate, cX10_plate, some .int), (yX10_sitting, cX10_sitting, some .int), (yX10_mark, cX10_mark, some .int), (yX10_would, cX10_would, some .int), (yX10_share, cX10_share, some .int), (yX10_ahead, cX10_ahead, some .int)]
def mI_7 : List (MethodName × ByteArray × Option FieldType) := [(yX10_when, cX10_when, some .int), (yX10_meals, cX10_meals, some .int), (yX10_need, cX10_need, some .int), (yX10_rising, cX10_rising, some .int), (yX10_gains, cX10_gains, some .int), (yX10_goings, cX10_goings, some .int), (yX10_bright, cX10_bright, some .int), (yX10_places, cX10_places, some .int), (yX10_placed, cX10_placed, some .int), (yX10_packing, cX10_packing, some .int), (yX10_packed, cX10_packed, some .int), (yX10_well, cX10_well, some .long), (yX10_getsUp, cX10_getsUp, some .int), (yX10_food, cX10_food, some .int), (yX10_darkest, cX10_darkest, some .int), (yX10_stillest, cX10_stillest, some .int)]
def mI_8 : List (MethodName × ByteArray × Option FieldType) := [(yX10_stains, cX10_stains, some .int), (yX10_hungriest, cX10_hungriest, some .int), (yX10_brightest, cX10_brightest, some .int), (yX10_empty, cX10_empty, some .int), (yX10_absent, cX10_absent, some .int), (yX10_crowd, cX10_crowd, some .int), (yX10_lead, cX10_lead, some .int), (yX10_season, cX10_season, some .int), (yX10_span, cX10_span, some .int), (yX10_status, cX10_status, some .int), (yX10_count, cX10_count, some .int), (yX10_refuseArgument, cX10_refuseArgument, some .int), (yX10_refuseElement, cX10_refuseElement, some .int), (yX10_needRange, cX10_needRange, none), (yX10_needSeat, cX10_needSeat, none), (yX10_needSitter, cX10_needSitter, none)]
def mI_9 : List (MethodName × ByteArray × Option FieldType) := [(yX10_needSitting, cX10_needSitting, none), (yX10_openText, cX10_openText, none), (yX10_begin, cX10_begin, none), (yX10_momentNow, cX10_momentNow, some (.object "StillYear$Moment")), (yX10_goBack, cX10_goBack, none), (yX10_mealsFor, cX10_mealsFor, some .int), (yX10_daysOn, cX10_daysOn, some .int), (yX10_choices, cX10_choices, some .long), (yX10_givenWithin, cX10_givenWithin, some .int), (yX10_has, cX10_has, some .int), (yX10_rests, cX10_rests, some .boolean), (yX10_playSeason, cX10_playSeason, none), (yX10_playDrawnSteps, cX10_playDrawnSteps, none), (yX10_pick, cX10_pick, some .int), (yX10_hasBit, cX10_hasBit, some .boolean), (yX10_greatestCommon, cX10_greatestCommon, some .int)]
def mI_10 : List (MethodName × ByteArray × Option FieldType) := [(yX11_thrown, cX11_thrown, some .int), (yX11_may, cX11_may, some .boolean), (yX11_within, cX11_within, some .boolean), (yX11_init, cX11_init, none), (yX11_feed, cX11_feed, some .int), (yX11_fine, cX11_fine, some .boolean), (yX11_wrong, cX11_wrong, none), (yX11_here, cX11_here, some .int), (yX11_isSmall, cX11_isSmall, some .boolean), (yX11_isDigit, cX11_isDigit, some .boolean), (yX11_word, cX11_word, some .int), (yX11_of, cX11_of, some .int), (yX11_pass, cX11_pass, none), (yX11_readNumber, cX11_readNumber, some .int), (yX11_sign, cX11_sign, none), (yX11_isMore, cX11_isMore, some .boolean)]
def mI_11 : List (MethodName × ByteArray × Option FieldType) := [(yX11_begins, cX11_begins, none), (yX11_result, cX11_result, some .int), (yX11_fault, cX11_fault, some .int), (yX11_copies, cX11_copies, none), (yX11_clears, cX11_clears, none), (yX11_sets, cX11_sets, none), (yX11_isShort, cX11_isShort, some .boolean), (yX11_isFull, cX11_isFull, some .boolean), (yX11_readRow, cX11_readRow, none), (yX11_studio, cX11_studio, some .int), (yX11_emit, cX11_emit, none), (yX11_opensOne, cX11_opensOne, none), (yX11_readSum, cX11_readSum, none), (yX11_readProduct, cX11_readProduct, none), (yX11_readTwo, cX11_readTwo, none), (yX11_standsHere, cX11_standsHere, some .boolean)]
def mI_12 : List (MethodName × ByteArray × Option FieldType) := [(yX11_factHere, cX11_factHere, some .int), (yX11_readUnit, cX11_readUnit, none), (yX11_law, cX11_law, some .int), (yX11_valueNow, cX11_valueNow, some .int), (yX11_both, cX11_both, some .int), (yX11_markNow, cX11_markNow, some .int), (yX11_tellsStep, cX11_tellsStep, none), (yX11_readStep, cX11_readStep, none), (yX11_work, cX11_work, some .int), (yX11_goesSteps, cX11_goesSteps, none), (yX11_take, cX11_take, none), (yX11_markOf, cX11_markOf, some .int), (yX11_sitsAll, cX11_sitsAll, some .int), (yX11_ones, cX11_ones, some .int), (yX11_markBy, cX11_markBy, some .int), (yX11_onSeat, cX11_onSeat, some .int)]
def mI_13 : List (MethodName × ByteArray × Option FieldType) := [(yX11_rises, cX11_rises, none), (yX11_sits, cX11_sits, some .boolean), (yX11_feeds, cX11_feeds, some .boolean), (yX11_goes, cX11_goes, some .boolean), (yX11_passes, cX11_passes, none), (yX11_allOn, cX11_allOn, some .int), (yX11_allOnPlate, cX11_allOnPlate, some .int), (yX11_seenOn, cX11_seenOn, some .int), (yX11_unseen, cX11_unseen, some .int), (yX11_book, cX11_book, some .int), (yX11_undo, cX11_undo, some .int), (yX11_told, cX11_told, some .int), (yX11_isSeat, cX11_isSeat, some .boolean), (yX11_isSitter, cX11_isSitter, some .boolean), (yX11_seat, cX11_seat, some .int), (yX11_ofHim, cX11_ofHim, some .int)]
def mI_14 : List (MethodName × ByteArray × Option FieldType) := [(yX11_sitter, cX11_sitter, some .int), (yX11_plate, cX11_plate, some .int), (yX11_sitting, cX11_sitting, some .int), (yX11_mark, cX11_mark, some .int), (yX11_would, cX11_would, some .int), (yX11_least, cX11_least, some .long), (yX11_share, cX11_share, some .int), (yX11_ahead, cX11_ahead, some .int), (yX11_when, cX11_when, some .int), (yX11_meals, cX11_meals, some .int), (yX11_mealsOf, cX11_mealsOf, some .int), (yX11_firstMark, cX11_firstMark, some .int), (yX11_among, cX11_among, some .long), (yX11_goings, cX11_goings, some .int), (yX11_bright, cX11_bright, some .int), (yX11_layPlaces, cX11_layPlaces, none)]
def mI_15 : List (MethodName × ByteArray × Option FieldType) := [(yX11_places, cX11_places, some .int), (yX11_placed, cX11_placed, some .int), (yX11_lays, cX11_lays, some .boolean), (yX11_findPacking, cX11_findPacking, some .int), (yX11_packing, cX11_packing, some .int), (yX11_packed, cX11_packed, some .int), (yX11_well, cX11_well, some .long), (yX11_hasBy, cX11_hasBy, some .int), (yX11_getsUp, cX11_getsUp, some .int), (yX11_givenBy, cX11_givenBy, some .int), (yX11_food, cX11_food, some .int), (yX11_darkest, cX11_darkest, some .int), (yX11_stillest, cX11_stillest, some .int), (yX11_stains, cX11_stains, some .int), (yX11_hungriest, cX11_hungriest, some .int), (yX11_brightest, cX11_brightest, some .int)]
def mI_16 : List (MethodName × ByteArray × Option FieldType) := [(yX11_empty, cX11_empty, some .int), (yX11_rising, cX11_rising, some .int), (yX11_gains, cX11_gains, some .int), (yX11_absent, cX11_absent, some .int), (yX11_crowd, cX11_crowd, some .int), (yX11_need, cX11_need, some .int), (yX11_lead, cX11_lead, some .int), (yX11_draws, cX11_draws, some .int), (yX11_seasonGoes, cX11_seasonGoes, none), (yX11_isSeason, cX11_isSeason, some .boolean), (yX11_season, cX11_season, some .int), (yX11_span, cX11_span, some .int), (yX11_keepsRow, cX11_keepsRow, some .int), (yX11_keepsAll, cX11_keepsAll, none), (yX11_image, cX11_image, some .int), (yX11_restore, cX11_restore, some .int)]
def mI_17 : List (MethodName × ByteArray × Option FieldType) := [(yX11_status, cX11_status, some .int), (yX11_count, cX11_count, some .int), (yL_studio, cL_studio, some .int), (yL_law, cL_law, some .int), (yL_work, cL_work, some .int), (yL_book, cL_book, some .int), (yL_told, cL_told, some .int), (yL_seat, cL_seat, some .int), (yL_sitter, cL_sitter, some .int), (yL_plate, cL_plate, some .int), (yL_sitting, cL_sitting, some .int), (yL_mark, cL_mark, some .int), (yL_would, cL_would, some .int), (yL_share, cL_share, some .int), (yL_ahead, cL_ahead, some .int), (yL_when, cL_when, some .int)]
def mI_18 : List (MethodName × ByteArray × Option FieldType) := [(yL_meals, cL_meals, some .int), (yL_goings, cL_goings, some .int), (yL_bright, cL_bright, some .int), (yL_placed, cL_placed, some .int), (yL_packed, cL_packed, some .int), (yL_well, cL_well, some .int), (yL_getsUp, cL_getsUp, some .int), (yL_food, cL_food, some .int), (yL_darkest, cL_darkest, some .int), (yL_stillest, cL_stillest, some .int), (yL_stains, cL_stains, some .int), (yL_hungriest, cL_hungriest, some .int), (yL_brightest, cL_brightest, some .int), (yL_empty, cL_empty, some .int), (yL_rising, cL_rising, some .int), (yL_gains, cL_gains, some .int)]
def mI_19 : List (MethodName × ByteArray × Option FieldType) := [(yL_crowd, cL_crowd, some .int), (yL_need, cL_need, some .int), (yL_lead, cL_lead, some .int), (yL_season, cL_season, some .int), (yL_span, cL_span, some .int), (x, code, ret), (yJ6_bitCount_0f7a4, cJ6_bitCount_0f7a4, some .int), (yJ7_fill_53178, cJ7_fill_53178, none)]
def mI : List (List (MethodName × ByteArray × Option FieldType)) := [mI_0, mI_1, mI_2, mI_3, mI_4, mI_5, mI_6, mI_7, mI_8, mI_9, mI_10, mI_11, mI_12, mI_13, mI_14, mI_15, mI_16, mI_17, mI_18, mI_19]
def mR (M : Nat) : MethodName × ByteArray × Option FieldType := (mI.getD (M / 16) []).getD (M % 16) (objectInit, ⟨#[]⟩, none)
abbrev mY (M : Nat) : MethodName := (mR M).1
abbrev mB (M : Nat) : ByteArray := (mR M).2.1
abbrev mT (M : Nat) : Option FieldType := (mR M).2.2
def mKl : List (List Nat) := [[2, 0, 0, 0, 0, 2, 0, 0, 0, 0, 0, 1, 0, 0, 0, 0], [0, 0, 1, 0, 2, 2, 0, 0, 0, 2, 0, 0, 0, 0, 0, 0], [2, 0, 0, 0, 0, 0, 0, 0, 0, 0, 0, 0, 0, 1, 0, 0], [0, 0, 0, 0, 0, 0, 2, 0, 2, 0, 0, 1, 0, 0, 0, 0], [0, 2, 0, 0, 0, 0, 0, 0, 0, 0, 0, 0, 0, 0, 0, 0], [1, 1, 2, 0, 0, 0, 0, 0, 0, 0, 0, 0, 0, 2, 0, 0], [0, 0, 0, 0, 0, 0, 0, 0, 0, 0, 0, 0, 0, 0, 0, 0], [0, 0, 0, 0, 0, 0, 0, 0, 0, 0, 0, 0, 0, 0, 0, 0], [0, 0, 0, 0, 0, 0, 0, 0, 0, 0, 0, 0, 0, 0, 0, 0], [0, 0, 0, 0, 0, 0, 0, 1, 0, 1, 1, 0, 0, 1, 1, 1], [0, 0, 1, 2, 0, 0, 0, 0, 1, 1, 0, 1, 0, 0, 0, 0], [0, 0, 0, 0, 0, 0, 1, 0, 0, 0, 0, 0, 0, 0, 0, 0], [0, 0, 0, 0, 1, 0, 0, 0, 0, 0, 0, 0, 0, 1, 0, 0], [0, 0, 0, 0, 0, 0, 0, 0, 0, 0, 0, 0, 0, 0, 0, 0], [0, 0, 0, 0, 0, 1, 0, 0, 0, 0, 0, 0, 1, 0, 0, 0], [0, 0, 0, 0, 0, 0, 0, 1, 0, 0, 0, 0, 0, 0, 0, 0], [0, 0, 0, 0, 0, 0, 0, 0, 0, 1, 0, 0, 0, 0, 0, 0], [0, 0, 3, 3, 3, 3, 3, 3, 3, 3, 3, 3, 3, 3, 3, 3], [3, 3, 3, 3, 3, 3, 3, 3, 3, 3, 3, 3, 3, 3, 3, 3], [3, 3, 3, 3, 3, 4, 1, 1]]
def mK (M : Nat) : Nat := (mKl.getD (M / 16) []).getD (M % 16) 9
def pHr : List (List (Nat × Nat × Nat × Nat)) := [[(0, 9, 12, 13)], [(0, 9, 12, 13)], [(0, 9, 12, 13)], [(0, 9, 12, 13)], [(0, 9, 12, 13)], [(0, 10, 13, 31), (0, 10, 17, 13)], [(0, 10, 13, 31), (0, 10, 17, 13)], [(0, 10, 13, 31)], [(0, 9, 12, 31)], [(0, 9, 12, 31)], [(0, 22, 25, 13)], [(0, 12, 15, 31), (0, 12, 19, 13)], [(0, 10, 13, 13)], [(0, 9, 12, 31)], [(0, 10, 13, 31), (0, 10, 17, 13)], [(0, 10, 13, 31), (0, 10, 17, 13)], [(0, 9, 12, 31)], [(0, 9, 12, 31)], [(0, 9, 12, 31)], [(0, 11, 14, 13)], [(0, 14, 17, 13)], [(0, 12, 15, 31), (0, 12, 19, 13)], [(0, 9, 12, 13)], [(0, 9, 12, 13)], [(0, 9, 12, 13)], [(0, 9, 12, 13)], [(0, 9, 12, 13)], [(0, 9, 12, 13)], [(0, 9, 12, 31)], [(0, 10, 13, 31)], [(0, 9, 12, 31)], [(0, 9, 12, 13)], [(0, 9, 12, 31)], [(0, 14, 17, 13)], [(0, 16, 19, 13)]]
def mH (M : Nat) : List (Nat × Nat × Nat × Nat) := bif Nat.blt M 274 then [] else pHr.getD (M - 274) []
def mC (M : Nat) : Cond := bif Nat.beq (mK M) 3 then .codeWith (mY M) (mB M) (mxL M) (mT M) (mH M) else .code (mY M) (mB M) (mxL M) (mT M)
def mW (M : Nat) : List Cond := .initialized (mY M).cls :: (match mK M with
  | 0 => [.instanceMethod (mY M), .selects (mY M).cls (mY M) (mY M)]
  | 1 => [.static (mY M)]
  | 2 => [.instanceMethod (mY M)]
  | 3 => [.static (mY M)]
  | _ => [])
def mPc : List Nat := [262, 991, 1164, 981, 986, 243, 436, 440, 444, 448, 452, 455, 781, 785, 789, 793, 804, 821, 825, 800, 402, 492, 525, 515, 519, 168, 428, 471, 478, 483, 1191, 1195, 279, 390, 935, 943, 951, 955, 959, 968, 1101, 432, 947, 963, 939, 540, 537, 1010, 1006, 1071, 533, 1018, 1067, 1014, 1333, 1346, 189, 639, 663, 719, 727, 742, 747, 752, 757, 137, 370, 374, 635, 765, 643, 813, 761, 651, 668, 731, 659, 723, 808, 647, 655, 734, 846, 881, 897, 903, 913, 886, 891, 918, 927, 923, 931, 129, 366, 556, 777, 841, 977, 378, 382, 394, 420, 1001, 1026, 1059, 1078, 1086, 1097, 1108, 1119, 1129, 1137, 1144, 1310, 1287, 1294, 1156, 1179, 424, 1187, 487, 1202, 1209, 1216, 1229, 1241, 1251, 1259, 1266, 1273, 1280, 529, 1303, 1317, 1324, 1356, 544, 548, 569, 1034, 565, 1030, 1063, 1090, 560, 769, 398, 386, 1148, 1160, 1169, 1234, 1222, 1219, 1328, 1342, 1244, 474, 1122, 1360, 1560, 1761, 1365, 1548, 1568, 1604, 1576, 1586, 1623, 1590, 1597, 1612, 1620, 1627, 1572, 1564, 1631, 1552, 1378, 1370, 1374, 1593, 1608, 1616, 1556, 1655, 1651, 1639, 1643, 1660, 1581, 1665, 1647, 1635, 1743, 1746, 1739, 1684, 1679, 1675, 1696, 1692, 1735, 1728, 1731, 1724, 1708, 1716, 1704, 1712, 1700, 1720, 1769, 1765, 1777, 1773, 1750, 1754, 1758, 1785, 1793, 1781, 1797, 1789, 1801, 1805, 1809, 1813, 1820, 1817, 1824, 1828, 1832, 1836, 1844, 1847, 1840, 1852, 1860, 1856, 1864, 1876, 1872, 1868, 1880, 1884, 1892, 1889, 1900, 1896, 1904, 1908, 1912, 1916, 1920, 1924, 1928, 1932, 1936, 1940, 1944, 1948, 1963, 1959, 1955, 1952, 1968, 1980, 1976, 1972, 1984, 1988, 1992, 551, 773, 837, 973, 997, 1021, 1055, 1074, 1082, 1093, 1104, 1115, 1125, 1133, 1140, 1152, 1175, 1183, 1198, 1205, 1212, 1225, 1237, 1247, 1255, 1262, 1269, 1276, 1283, 1290, 1299, 1306, 1313, 1320, 1352, 0, 464, 286]
def mPw : List (List Nat) := [[105, 261], [105, 989, 990], [105, 1162, 1163], [105, 979, 980], [105, 985, 32], [104, 242], [104, 434, 435], [104, 438, 439], [104, 442, 443], [104, 446, 447], [104, 451, 2], [104, 454], [104, 779, 780], [104, 784, 18], [104, 788, 19], [104, 792, 20], [104, 803, 22], [104, 820, 23], [104, 824], [104, 799, 21], [120, 401], [123, 491], [123, 523, 524], [123, 513, 514], [123, 518, 5], [102, 167], [102, 426, 427], [102, 470, 3], [102, 477, 4], [102, 481, 482], [102, 1189, 1190], [102, 1194, 39], [106, 278], [106, 388, 389], [106, 933, 934], [106, 941, 942], [106, 949, 950], [106, 953, 954], [106, 957, 958], [106, 966, 967], [106, 1099, 1100], [106, 430, 431], [106, 945, 946], [106, 961, 962], [106, 937, 938], [106, 539], [106, 535, 536], [106, 1008, 1009], [106, 1004, 1005], [106, 1069, 1070], [106, 531, 532], [106, 1016, 1017], [106, 1065, 1066], [106, 1012, 1013], [124, 1332], [124, 1344, 1345], [103, 188], [103, 637, 638], [103, 662, 11], [103, 718], [103, 726, 12], [103, 741, 13], [103, 746, 14], [103, 751, 15], [103, 756, 16], [101, 136], [101, 368, 369], [101, 372, 373], [101, 633, 634], [101, 763, 764], [101, 641, 642], [101, 811, 812], [101, 759, 760], [101, 649, 650], [101, 666, 667], [101, 729, 730], [101, 657, 658], [101, 721, 722], [101, 806, 807], [101, 646, 10], [101, 654], [101, 733], [119, 845], [119, 879, 880], [119, 896, 26], [119, 902, 27], [119, 912, 28], [119, 885, 24], [119, 890, 25], [119, 916, 917], [119, 926, 30], [119, 922, 29], [119, 930, 31], [100, 128], [100, 364, 365], [100, 554, 555], [100, 775, 776], [100, 839, 840], [100, 975, 976], [100, 376, 377], [100, 380, 381], [100, 392, 393], [100, 418, 419], [100, 999, 1000], [100, 1024, 1025], [100, 1057, 1058], [100, 1076, 1077], [100, 1084, 1085], [100, 1095, 1096], [100, 1106, 1107], [100, 1117, 1118], [100, 1127, 1128], [100, 1135, 1136], [100, 1142, 1143], [100, 1308, 1309], [100, 1285, 1286], [100, 1292, 1293], [100, 1154, 1155], [100, 1177, 1178], [100, 422, 423], [100, 1185, 1186], [100, 485, 486], [100, 1200, 1201], [100, 1207, 1208], [100, 1214, 1215], [100, 1227, 1228], [100, 1239, 1240], [100, 1249, 1250], [100, 1257, 1258], [100, 1264, 1265], [100, 1271, 1272], [100, 1278, 1279], [100, 527, 528], [100, 1301, 1302], [100, 1315, 1316], [100, 1322, 1323], [100, 1354, 1355], [100, 542, 543], [100, 546, 547], [100, 568, 8], [100, 1033, 34], [100, 564, 7], [100, 1029, 33], [100, 1062, 35], [100, 1089, 36], [100, 559, 6], [100, 768, 17], [100, 397, 1], [100, 385, 0], [100, 1147, 37], [100, 1159, 38], [100, 1168], [100, 1233, 40], [100, 1221], [100, 1218], [100, 1327, 41], [100, 1341, 42], [100, 1243], [100, 473], [100, 1121], [109, 1358, 1359], [109, 1559, 46], [109, 1760], [109, 1364], [109, 1546, 1547], [109, 1567, 48], [109, 1603, 53], [109, 1575, 50], [109, 1585], [109, 1622], [109, 1589, 52], [109, 1596], [109, 1611, 55], [109, 1619, 57], [109, 1626, 58], [109, 1571, 49], [109, 1563, 47], [109, 1630, 59], [109, 1550, 1551], [109, 1377, 45], [109, 1369, 43], [109, 1373, 44], [109, 1592], [109, 1607, 54], [109, 1615, 56], [109, 1554, 1555], [109, 1654, 64], [109, 1650, 63], [109, 1638, 60], [109, 1642, 61], [109, 1659, 65], [109, 1580, 51], [109, 1664, 66], [109, 1646, 62], [109, 1633, 1634], [109, 1742, 81], [109, 1745], [109, 1738, 80], [109, 1683, 68], [109, 1678, 67], [109, 1673, 1674], [109, 1695, 70], [109, 1691, 69], [109, 1734, 79], [109, 1727, 78], [109, 1730], [109, 1723, 77], [109, 1707, 73], [109, 1715, 75], [109, 1703, 72], [109, 1711, 74], [109, 1699, 71], [109, 1719, 76], [109, 1768, 83], [109, 1764, 82], [109, 1776, 85], [109, 1772, 84], [109, 1748, 1749], [109, 1752, 1753], [109, 1756, 1757], [109, 1784, 86], [109, 1792, 87], [109, 1779, 1780], [109, 1796, 88], [109, 1787, 1788], [109, 1799, 1800], [109, 1803, 1804], [109, 1807, 1808], [109, 1811, 1812], [109, 1819], [109, 1815, 1816], [109, 1822, 1823], [109, 1826, 1827], [109, 1830, 1831], [109, 1835, 89], [109, 1843, 90], [109, 1846], [109, 1838, 1839], [109, 1850, 1851], [109, 1859, 91], [109, 1854, 1855], [109, 1862, 1863], [109, 1875, 93], [109, 1871, 92], [109, 1866, 1867], [109, 1878, 1879], [109, 1882, 1883], [109, 1891], [109, 1887, 1888], [109, 1899, 94], [109, 1894, 1895], [109, 1902, 1903], [109, 1906, 1907], [109, 1910, 1911], [109, 1914, 1915], [109, 1918, 1919], [109, 1922, 1923], [109, 1926, 1927], [109, 1930, 1931], [109, 1934, 1935], [109, 1938, 1939], [109, 1942, 1943], [109, 1946, 1947], [109, 1962, 96], [109, 1958, 95], [109, 1954], [109, 1950, 1951], [109, 1966, 1967], [109, 1979, 98], [109, 1975, 97], [109, 1970, 1971], [109, 1982, 1983], [109, 1986, 1987], [109, 1990, 1991], [99, 550], [99, 772], [99, 836], [99, 972], [99, 996], [99, 1020], [99, 1054], [99, 1073], [99, 1081], [99, 1092], [99, 1103], [99, 1114], [99, 1124], [99, 1132], [99, 1139], [99, 1151], [99, 1174], [99, 1182], [99, 1197], [99, 1204], [99, 1211], [99, 1224], [99, 1236], [99, 1246], [99, 1254], [99, 1261], [99, 1268], [99, 1275], [99, 1282], [99, 1289], [99, 1298], [99, 1305], [99, 1312], [99, 1319], [99, 1351], [99], [121, 463], [108, 285]]
def mOkW (M : Nat) : Bool := Nat.beq (mK M) 4 || ((mPw.getD M []).map (fun i => lw_tbl[i]?) == (mW M).map some) && (mW M).all goodWord
set_option maxRecDepth 100000 in
theorem mOkW_0 : ((List.range 16).map (0 + ·)).all (fun M => Nat.ble 312 M || mOkW M) = true := by decide +kernel
set_option maxRecDepth 100000 in
theorem mOkW_1 : ((List.range 16).map (16 + ·)).all (fun M => Nat.ble 312 M || mOkW M) = true := by decide +kernel
set_option maxRecDepth 100000 in
theorem mOkW_2 : ((List.range 16).map (32 + ·)).all (fun M => Nat.ble 312 M || mOkW M) = true := by decide +kernel
set_option maxRecDepth 100000 in
theorem mOkW_3 : ((List.range 16).map (48 + ·)).all (fun M => Nat.ble 312 M || mOkW M) = true := by decide +kernel
set_option maxRecDepth 100000 in
theorem mOkW_4 : ((List.range 16).map (64 + ·)).all (fun M => Nat.ble 312 M || mOkW M) = true := by decide +kernel
set_option maxRecDepth 100000 in
theorem mOkW_5 : ((List.range 16).map (80 + ·)).all (fun M => Nat.ble 312 M || mOkW M) = true := by decide +kernel
set_option maxRecDepth 100000 in
theorem mOkW_6 : ((List.range 16).map (96 + ·)).all (fun M => Nat.ble 312 M || mOkW M) = true := by decide +kernel
set_option maxRecDepth 100000 in
theorem mOkW_7 : ((List.range 16).map (112 + ·)).all (fun M => Nat.ble 312 M || mOkW M) = true := by decide +kernel
set_option maxRecDepth 100000 in
theorem mOkW_8 : ((List.range 16).map (128 + ·)).all (fun M => Nat.ble 312 M || mOkW M) = true := by decide +kernel
set_option maxRecDepth 100000 in
theorem mOkW_9 : ((List.range 16).map (144 + ·)).all (fun M => Nat.ble 312 M || mOkW M) = true := by decide +kernel
set_option maxRecDepth 100000 in
theorem mOkW_10 : ((List.range 16).map (160 + ·)).all (fun M => Nat.ble 312 M || mOkW M) = true := by decide +kernel
set_option maxRecDepth 100000 in
theorem mOkW_11 : ((List.range 16).map (176 + ·)).all (fun M => Nat.ble 312 M || mOkW M) = true := by decide +kernel
set_option maxRecDepth 100000 in
theorem mOkW_12 : ((List.range 16).map (192 + ·)).all (fun M => Nat.ble 312 M || mOkW M) = true := by decide +kernel
set_option maxRecDepth 100000 in
theorem mOkW_13 : ((List.range 16).map (208 + ·)).all (fun M => Nat.ble 312 M || mOkW M) = true := by decide +kernel
set_option maxRecDepth 100000 in
theorem mOkW_14 : ((List.range 16).map (224 + ·)).all (fun M => Nat.ble 312 M || mOkW M) = true := by decide +kernel
set_option maxRecDepth 100000 in
theorem mOkW_15 : ((List.range 16).map (240 + ·)).all (fun M => Nat.ble 312 M || mOkW M) = true := by decide +kernel
set_option maxRecDepth 100000 in
theorem mOkW_16 : ((List.range 16).map (256 + ·)).all (fun M => Nat.ble 312 M || mOkW M) = true := by decide +kernel
set_option maxRecDepth 100000 in
theorem mOkW_17 : ((List.range 16).map (272 + ·)).all (fun M => Nat.ble 312 M || mOkW M) = true := by decide +kernel
set_option maxRecDepth 100000 in
theorem mOkW_18 : ((List.range 16).map (288 + ·)).all (fun M => Nat.ble 312 M || mOkW M) = true := by decide +kernel
set_option maxRecDepth 100000 in
theorem mOkW_19 : ((List.range 16).map (304 + ·)).all (fun M => Nat.ble 312 M || mOkW M) = true := by decide +kernel
set_option maxRecDepth 100000 in
theorem mC_0 : mC 0 ∈ wT := wT_in 262 rfl (by decide +kernel)
set_option maxRecDepth 100000 in
theorem mC_1 : mC 1 ∈ wT := wT_in 991 rfl (by decide +kernel)
set_option maxRecDepth 100000 in
theorem mC_2 : mC 2 ∈ wT := wT_in 1164 rfl (by decide +kernel)
set_option maxRecDepth 100000 in
theorem mC_3 : mC 3 ∈ wT := wT_in 981 rfl (by decide +kernel)
set_option maxRecDepth 100000 in
theorem mC_4 : mC 4 ∈ wT := wT_in 986 rfl (by decide +kernel)
set_option maxRecDepth 100000 in
theorem mC_5 : mC 5 ∈ wT := wT_in 243 rfl (by decide +kernel)
set_option maxRecDepth 100000 in
theorem mC_6 : mC 6 ∈ wT := wT_in 436 rfl (by decide +kernel)
set_option maxRecDepth 100000 in
theorem mC_7 : mC 7 ∈ wT := wT_in 440 rfl (by decide +kernel)
set_option maxRecDepth 100000 in
theorem mC_8 : mC 8 ∈ wT := wT_in 444 rfl (by decide +kernel)
set_option maxRecDepth 100000 in
theorem mC_9 : mC 9 ∈ wT := wT_in 448 rfl (by decide +kernel)
set_option maxRecDepth 100000 in
theorem mC_10 : mC 10 ∈ wT := wT_in 452 rfl (by decide +kernel)
set_option maxRecDepth 100000 in
theorem mC_11 : mC 11 ∈ wT := wT_in 455 rfl (by decide +kernel)
set_option maxRecDepth 100000 in
theorem mC_12 : mC 12 ∈ wT := wT_in 781 rfl (by decide +kernel)
set_option maxRecDepth 100000 in
theorem mC_13 : mC 13 ∈ wT := wT_in 785 rfl (by decide +kernel)
set_option maxRecDepth 100000 in
theorem mC_14 : mC 14 ∈ wT := wT_in 789 rfl (by decide +kernel)
set_option maxRecDepth 100000 in
theorem mC_15 : mC 15 ∈ wT := wT_in 793 rfl (by decide +kernel)
set_option maxRecDepth 100000 in
theorem mC_16 : mC 16 ∈ wT := wT_in 804 rfl (by decide +kernel)
set_option maxRecDepth 100000 in
theorem mC_17 : mC 17 ∈ wT := wT_in 821 rfl (by decide +kernel)
set_option maxRecDepth 100000 in
theorem mC_18 : mC 18 ∈ wT := wT_in 825 rfl (by decide +kernel)
set_option maxRecDepth 100000 in
theorem mC_19 : mC 19 ∈ wT := wT_in 800 rfl (by decide +kernel)
set_option maxRecDepth 100000 in
theorem mC_20 : mC 20 ∈ wT := wT_in 402 rfl (by decide +kernel)
set_option maxRecDepth 100000 in
theorem mC_21 : mC 21 ∈ wT := wT_in 492 rfl (by decide +kernel)
set_option maxRecDepth 100000 in
theorem mC_22 : mC 22 ∈ wT := wT_in 525 rfl (by decide +kernel)
set_option maxRecDepth 100000 in
theorem mC_23 : mC 23 ∈ wT := wT_in 515 rfl (by decide +kernel)
set_option maxRecDepth 100000 in
theorem mC_24 : mC 24 ∈ wT := wT_in 519 rfl (by decide +kernel)
set_option maxRecDepth 100000 in
theorem mC_25 : mC 25 ∈ wT := wT_in 168 rfl (by decide +kernel)
set_option maxRecDepth 100000 in
theorem mC_26 : mC 26 ∈ wT := wT_in 428 rfl (by decide +kernel)
set_option maxRecDepth 100000 in
theorem mC_27 : mC 27 ∈ wT := wT_in 471 rfl (by decide +kernel)
set_option maxRecDepth 100000 in
theorem mC_28 : mC 28 ∈ wT := wT_in 478 rfl (by decide +kernel)
set_option maxRecDepth 100000 in
theorem mC_29 : mC 29 ∈ wT := wT_in 483 rfl (by decide +kernel)
set_option maxRecDepth 100000 in
theorem mC_30 : mC 30 ∈ wT := wT_in 1191 rfl (by decide +kernel)
set_option maxRecDepth 100000 in
theorem mC_31 : mC 31 ∈ wT := wT_in 1195 rfl (by decide +kernel)
set_option maxRecDepth 100000 in
theorem mC_32 : mC 32 ∈ wT := wT_in 279 rfl (by decide +kernel)
set_option maxRecDepth 100000 in
theorem mC_33 : mC 33 ∈ wT := wT_in 390 rfl (by decide +kernel)
set_option maxRecDepth 100000 in
theorem mC_34 : mC 34 ∈ wT := wT_in 935 rfl (by decide +kernel)
set_option maxRecDepth 100000 in
theorem mC_35 : mC 35 ∈ wT := wT_in 943 rfl (by decide +kernel)
set_option maxRecDepth 100000 in
theorem mC_36 : mC 36 ∈ wT := wT_in 951 rfl (by decide +kernel)
set_option maxRecDepth 100000 in
theorem mC_37 : mC 37 ∈ wT := wT_in 955 rfl (by decide +kernel)
set_option maxRecDepth 100000 in
theorem mC_38 : mC 38 ∈ wT := wT_in 959 rfl (by decide +kernel)
set_option maxRecDepth 100000 in
theorem mC_39 : mC 39 ∈ wT := wT_in 968 rfl (by decide +kernel)
set_option maxRecDepth 100000 in
theorem mC_40 : mC 40 ∈ wT := wT_in 1101 rfl (by decide +kernel)
set_option maxRecDepth 100000 in
theorem mC_41 : mC 41 ∈ wT := wT_in 432 rfl (by decide +kernel)
set_option maxRecDepth 100000 in
theorem mC_42 : mC 42 ∈ wT := wT_in 947 rfl (by decide +kernel)
set_option maxRecDepth 100000 in
theorem mC_43 : mC 43 ∈ wT := wT_in 963 rfl (by decide +kernel)
set_option maxRecDepth 100000 in
theorem mC_44 : mC 44 ∈ wT := wT_in 939 rfl (by decide +kernel)
set_option maxRecDepth 100000 in
theorem mC_45 : mC 45 ∈ wT := wT_in 540 rfl (by decide +kernel)
set_option maxRecDepth 100000 in
theorem mC_46 : mC 46 ∈ wT := wT_in 537 rfl (by decide +kernel)
set_option maxRecDepth 100000 in
theorem mC_47 : mC 47 ∈ wT := wT_in 1010 rfl (by decide +kernel)
set_option maxRecDepth 100000 in
theorem mC_48 : mC 48 ∈ wT := wT_in 1006 rfl (by decide +kernel)
set_option maxRecDepth 100000 in
theorem mC_49 : mC 49 ∈ wT := wT_in 1071 rfl (by decide +kernel)
set_option maxRecDepth 100000 in
theorem mC_50 : mC 50 ∈ wT := wT_in 533 rfl (by decide +kernel)
set_option maxRecDepth 100000 in
theorem mC_51 : mC 51 ∈ wT := wT_in 1018 rfl (by decide +kernel)
set_option maxRecDepth 100000 in
theorem mC_52 : mC 52 ∈ wT := wT_in 1067 rfl (by decide +kernel)
set_option maxRecDepth 100000 in
theorem mC_53 : mC 53 ∈ wT := wT_in 1014 rfl (by decide +kernel)
set_option maxRecDepth 100000 in
theorem mC_54 : mC 54 ∈ wT := wT_in 1333 rfl (by decide +kernel)
set_option maxRecDepth 100000 in
theorem mC_55 : mC 55 ∈ wT := wT_in 1346 rfl (by decide +kernel)
set_option maxRecDepth 100000 in
theorem mC_56 : mC 56 ∈ wT := wT_in 189 rfl (by decide +kernel)
set_option maxRecDepth 100000 in
theorem mC_57 : mC 57 ∈ wT := wT_in 639 rfl (by decide +kernel)
set_option maxRecDepth 100000 in
theorem mC_58 : mC 58 ∈ wT := wT_in 663 rfl (by decide +kernel)
set_option maxRecDepth 100000 in
theorem mC_59 : mC 59 ∈ wT := wT_in 719 rfl (by decide +kernel)
set_option maxRecDepth 100000 in
theorem mC_60 : mC 60 ∈ wT := wT_in 727 rfl (by decide +kernel)
set_option maxRecDepth 100000 in
theorem mC_61 : mC 61 ∈ wT := wT_in 742 rfl (by decide +kernel)
set_option maxRecDepth 100000 in
theorem mC_62 : mC 62 ∈ wT := wT_in 747 rfl (by decide +kernel)
set_option maxRecDepth 100000 in
theorem mC_63 : mC 63 ∈ wT := wT_in 752 rfl (by decide +kernel)
set_option maxRecDepth 100000 in
theorem mC_64 : mC 64 ∈ wT := wT_in 757 rfl (by decide +kernel)
set_option maxRecDepth 100000 in
theorem mC_65 : mC 65 ∈ wT := wT_in 137 rfl (by decide +kernel)
set_option maxRecDepth 100000 in
theorem mC_66 : mC 66 ∈ wT := wT_in 370 rfl (by decide +kernel)
set_option maxRecDepth 100000 in
theorem mC_67 : mC 67 ∈ wT := wT_in 374 rfl (by decide +kernel)
set_option maxRecDepth 100000 in
theorem mC_68 : mC 68 ∈ wT := wT_in 635 rfl (by decide +kernel)
set_option maxRecDepth 100000 in
theorem mC_69 : mC 69 ∈ wT := wT_in 765 rfl (by decide +kernel)
set_option maxRecDepth 100000 in
theorem mC_70 : mC 70 ∈ wT := wT_in 643 rfl (by decide +kernel)
set_option maxRecDepth 100000 in
theorem mC_71 : mC 71 ∈ wT := wT_in 813 rfl (by decide +kernel)
set_option maxRecDepth 100000 in
theorem mC_72 : mC 72 ∈ wT := wT_in 761 rfl (by decide +kernel)
set_option maxRecDepth 100000 in
theorem mC_73 : mC 73 ∈ wT := wT_in 651 rfl (by decide +kernel)
set_option maxRecDepth 100000 in
theorem mC_74 : mC 74 ∈ wT := wT_in 668 rfl (by decide +kernel)
set_option maxRecDepth 100000 in
theorem mC_75 : mC 75 ∈ wT := wT_in 731 rfl (by decide +kernel)
set_option maxRecDepth 100000 in
theorem mC_76 : mC 76 ∈ wT := wT_in 659 rfl (by decide +kernel)
set_option maxRecDepth 100000 in
theorem mC_77 : mC 77 ∈ wT := wT_in 723 rfl (by decide +kernel)
set_option maxRecDepth 100000 in
theorem mC_78 : mC 78 ∈ wT := wT_in 808 rfl (by decide +kernel)
set_option maxRecDepth 100000 in
theorem mC_79 : mC 79 ∈ wT := wT_in 647 rfl (by decide +kernel)
set_option maxRecDepth 100000 in
theorem mC_80 : mC 80 ∈ wT := wT_in 655 rfl (by decide +kernel)
set_option maxRecDepth 100000 in
theorem mC_81 : mC 81 ∈ wT := wT_in 734 rfl (by decide +kernel)
set_option maxRecDepth 100000 in
theorem mC_82 : mC 82 ∈ wT := wT_in 846 rfl (by decide +kernel)
set_option maxRecDepth 100000 in
theorem mC_83 : mC 83 ∈ wT := wT_in 881 rfl (by decide +kernel)
set_option maxRecDepth 100000 in
theorem mC_84 : mC 84 ∈ wT := wT_in 897 rfl (by decide +kernel)
set_option maxRecDepth 100000 in
theorem mC_85 : mC 85 ∈ wT := wT_in 903 rfl (by decide +kernel)
set_option maxRecDepth 100000 in
theorem mC_86 : mC 86 ∈ wT := wT_in 913 rfl (by decide +kernel)
set_option maxRecDepth 100000 in
theorem mC_87 : mC 87 ∈ wT := wT_in 886 rfl (by decide +kernel)
set_option maxRecDepth 100000 in
theorem mC_88 : mC 88 ∈ wT := wT_in 891 rfl (by decide +kernel)
set_option maxRecDepth 100000 in
theorem mC_89 : mC 89 ∈ wT := wT_in 918 rfl (by decide +kernel)
set_option maxRecDepth 100000 in
theorem mC_90 : mC 90 ∈ wT := wT_in 927 rfl (by decide +kernel)
set_option maxRecDepth 100000 in
theorem mC_91 : mC 91 ∈ wT := wT_in 923 rfl (by decide +kernel)
set_option maxRecDepth 100000 in
theorem mC_92 : mC 92 ∈ wT := wT_in 931 rfl (by decide +kernel)
set_option maxRecDepth 100000 in
theorem mC_93 : mC 93 ∈ wT := wT_in 129 rfl (by decide +kernel)
set_option maxRecDepth 100000 in
theorem mC_94 : mC 94 ∈ wT := wT_in 366 rfl (by decide +kernel)
set_option maxRecDepth 100000 in
theorem mC_95 : mC 95 ∈ wT := wT_in 556 rfl (by decide +kernel)
set_option maxRecDepth 100000 in
theorem mC_96 : mC 96 ∈ wT := wT_in 777 rfl (by decide +kernel)
set_option maxRecDepth 100000 in
theorem mC_97 : mC 97 ∈ wT := wT_in 841 rfl (by decide +kernel)
set_option maxRecDepth 100000 in
theorem mC_98 : mC 98 ∈ wT := wT_in 977 rfl (by decide +kernel)
set_option maxRecDepth 100000 in
theorem mC_99 : mC 99 ∈ wT := wT_in 378 rfl (by decide +kernel)
set_option maxRecDepth 100000 in
theorem mC_100 : mC 100 ∈ wT := wT_in 382 rfl (by decide +kernel)
set_option maxRecDepth 100000 in
theorem mC_101 : mC 101 ∈ wT := wT_in 394 rfl (by decide +kernel)
set_option maxRecDepth 100000 in
theorem mC_102 : mC 102 ∈ wT := wT_in 420 rfl (by decide +kernel)
set_option maxRecDepth 100000 in
theorem mC_103 : mC 103 ∈ wT := wT_in 1001 rfl (by decide +kernel)
set_option maxRecDepth 100000 in
theorem mC_104 : mC 104 ∈ wT := wT_in 1026 rfl (by decide +kernel)
set_option maxRecDepth 100000 in
theorem mC_105 : mC 105 ∈ wT := wT_in 1059 rfl (by decide +kernel)
set_option maxRecDepth 100000 in
theorem mC_106 : mC 106 ∈ wT := wT_in 1078 rfl (by decide +kernel)
set_option maxRecDepth 100000 in
theorem mC_107 : mC 107 ∈ wT := wT_in 1086 rfl (by decide +kernel)
set_option maxRecDepth 100000 in
theorem mC_108 : mC 108 ∈ wT := wT_in 1097 rfl (by decide +kernel)
set_option maxRecDepth 100000 in
theorem mC_109 : mC 109 ∈ wT := wT_in 1108 rfl (by decide +kernel)
set_option maxRecDepth 100000 in
theorem mC_110 : mC 110 ∈ wT := wT_in 1119 rfl (by decide +kernel)
set_option maxRecDepth 100000 in
theorem mC_111 : mC 111 ∈ wT := wT_in 1129 rfl (by decide +kernel)
set_option maxRecDepth 100000 in
theorem mC_112 : mC 112 ∈ wT := wT_in 1137 rfl (by decide +kernel)
set_option maxRecDepth 100000 in
theorem mC_113 : mC 113 ∈ wT := wT_in 1144 rfl (by decide +kernel)
set_option maxRecDepth 100000 in
theorem mC_114 : mC 114 ∈ wT := wT_in 1310 rfl (by decide +kernel)
set_option maxRecDepth 100000 in
theorem mC_115 : mC 115 ∈ wT := wT_in 1287 rfl (by decide +kernel)
set_option maxRecDepth 100000 in
theorem mC_116 : mC 116 ∈ wT := wT_in 1294 rfl (by decide +kernel)
set_option maxRecDepth 100000 in
theorem mC_117 : mC 117 ∈ wT := wT_in 1156 rfl (by decide +kernel)
set_option maxRecDepth 100000 in
theorem mC_118 : mC 118 ∈ wT := wT_in 1179 rfl (by decide +kernel)
set_option maxRecDepth 100000 in
theorem mC_119 : mC 119 ∈ wT := wT_in 424 rfl (by decide +kernel)
set_option maxRecDepth 100000 in
theorem mC_120 : mC 120 ∈ wT := wT_in 1187 rfl (by decide +kernel)
set_option maxRecDepth 100000 in
theorem mC_121 : mC 121 ∈ wT := wT_in 487 rfl (by decide +kernel)
set_option maxRecDepth 100000 in
theorem mC_122 : mC 122 ∈ wT := wT_in 1202 rfl (by decide +kernel)
set_option maxRecDepth 100000 in
theorem mC_123 : mC 123 ∈ wT := wT_in 1209 rfl (by decide +kernel)
set_option maxRecDepth 100000 in
theorem mC_124 : mC 124 ∈ wT := wT_in 1216 rfl (by decide +kernel)
set_option maxRecDepth 100000 in
theorem mC_125 : mC 125 ∈ wT := wT_in 1229 rfl (by decide +kernel)
set_option maxRecDepth 100000 in
theorem mC_126 : mC 126 ∈ wT := wT_in 1241 rfl (by decide +kernel)
set_option maxRecDepth 100000 in
theorem mC_127 : mC 127 ∈ wT := wT_in 1251 rfl (by decide +kernel)
set_option maxRecDepth 100000 in
theorem mC_128 : mC 128 ∈ wT := wT_in 1259 rfl (by decide +kernel)
set_option maxRecDepth 100000 in
theorem mC_129 : mC 129 ∈ wT := wT_in 1266 rfl (by decide +kernel)
set_option maxRecDepth 100000 in
theorem mC_130 : mC 130 ∈ wT := wT_in 1273 rfl (by decide +kernel)
set_option maxRecDepth 100000 in
theorem mC_131 : mC 131 ∈ wT := wT_in 1280 rfl (by decide +kernel)
set_option maxRecDepth 100000 in
theorem mC_132 : mC 132 ∈ wT := wT_in 529 rfl (by decide +kernel)
set_option maxRecDepth 100000 in
theorem mC_133 : mC 133 ∈ wT := wT_in 1303 rfl (by decide +kernel)
set_option maxRecDepth 100000 in
theorem mC_134 : mC 134 ∈ wT := wT_in 1317 rfl (by decide +kernel)
set_option maxRecDepth 100000 in
theorem mC_135 : mC 135 ∈ wT := wT_in 1324 rfl (by decide +kernel)
set_option maxRecDepth 100000 in
theorem mC_136 : mC 136 ∈ wT := wT_in 1356 rfl (by decide +kernel)
set_option maxRecDepth 100000 in
theorem mC_137 : mC 137 ∈ wT := wT_in 544 rfl (by decide +kernel)
set_option maxRecDepth 100000 in
theorem mC_138 : mC 138 ∈ wT := wT_in 548 rfl (by decide +kernel)
set_option maxRecDepth 100000 in
theorem mC_139 : mC 139 ∈ wT := wT_in 569 rfl (by decide +kernel)
set_option maxRecDepth 100000 in
theorem mC_140 : mC 140 ∈ wT := wT_in 1034 rfl (by decide +kernel)
set_option maxRecDepth 100000 in
theorem mC_141 : mC 141 ∈ wT := wT_in 565 rfl (by decide +kernel)
set_option maxRecDepth 100000 in
theorem mC_142 : mC 142 ∈ wT := wT_in 1030 rfl (by decide +kernel)
set_option maxRecDepth 100000 in
theorem mC_143 : mC 143 ∈ wT := wT_in 1063 rfl (by decide +kernel)
set_option maxRecDepth 100000 in
theorem mC_144 : mC 144 ∈ wT := wT_in 1090 rfl (by decide +kernel)
set_option maxRecDepth 100000 in
theorem mC_145 : mC 145 ∈ wT := wT_in 560 rfl (by decide +kernel)
set_option maxRecDepth 100000 in
theorem mC_146 : mC 146 ∈ wT := wT_in 769 rfl (by decide +kernel)
set_option maxRecDepth 100000 in
theorem mC_147 : mC 147 ∈ wT := wT_in 398 rfl (by decide +kernel)
set_option maxRecDepth 100000 in
theorem mC_148 : mC 148 ∈ wT := wT_in 386 rfl (by decide +kernel)
set_option maxRecDepth 100000 in
theorem mC_149 : mC 149 ∈ wT := wT_in 1148 rfl (by decide +kernel)
set_option maxRecDepth 100000 in
theorem mC_150 : mC 150 ∈ wT := wT_in 1160 rfl (by decide +kernel)
set_option maxRecDepth 100000 in
theorem mC_151 : mC 151 ∈ wT := wT_in 1169 rfl (by decide +kernel)
set_option maxRecDepth 100000 in
theorem mC_152 : mC 152 ∈ wT := wT_in 1234 rfl (by decide +kernel)
set_option maxRecDepth 100000 in
theorem mC_153 : mC 153 ∈ wT := wT_in 1222 rfl (by decide +kernel)
set_option maxRecDepth 100000 in
theorem mC_154 : mC 154 ∈ wT := wT_in 1219 rfl (by decide +kernel)
set_option maxRecDepth 100000 in
theorem mC_155 : mC 155 ∈ wT := wT_in 1328 rfl (by decide +kernel)
set_option maxRecDepth 100000 in
theorem mC_156 : mC 156 ∈ wT := wT_in 1342 rfl (by decide +kernel)
set_option maxRecDepth 100000 in
theorem mC_157 : mC 157 ∈ wT := wT_in 1244 rfl (by decide +kernel)
set_option maxRecDepth 100000 in
theorem mC_158 : mC 158 ∈ wT := wT_in 474 rfl (by decide +kernel)
set_option maxRecDepth 100000 in
theorem mC_159 : mC 159 ∈ wT := wT_in 1122 rfl (by decide +kernel)
set_option maxRecDepth 100000 in
theorem mC_160 : mC 160 ∈ wT := wT_in 1360 rfl (by decide +kernel)
set_option maxRecDepth 100000 in
theorem mC_161 : mC 161 ∈ wT := wT_in 1560 rfl (by decide +kernel)
set_option maxRecDepth 100000 in
theorem mC_162 : mC 162 ∈ wT := wT_in 1761 rfl (by decide +kernel)
set_option maxRecDepth 100000 in
theorem mC_163 : mC 163 ∈ wT := wT_in 1365 rfl (by decide +kernel)
set_option maxRecDepth 100000 in
theorem mC_164 : mC 164 ∈ wT := wT_in 1548 rfl (by decide +kernel)
set_option maxRecDepth 100000 in
theorem mC_165 : mC 165 ∈ wT := wT_in 1568 rfl (by decide +kernel)
set_option maxRecDepth 100000 in
theorem mC_166 : mC 166 ∈ wT := wT_in 1604 rfl (by decide +kernel)
set_option maxRecDepth 100000 in
theorem mC_167 : mC 167 ∈ wT := wT_in 1576 rfl (by decide +kernel)
set_option maxRecDepth 100000 in
theorem mC_168 : mC 168 ∈ wT := wT_in 1586 rfl (by decide +kernel)
set_option maxRecDepth 100000 in
theorem mC_169 : mC 169 ∈ wT := wT_in 1623 rfl (by decide +kernel)
set_option maxRecDepth 100000 in
theorem mC_170 : mC 170 ∈ wT := wT_in 1590 rfl (by decide +kernel)
set_option maxRecDepth 100000 in
theorem mC_171 : mC 171 ∈ wT := wT_in 1597 rfl (by decide +kernel)
set_option maxRecDepth 100000 in
theorem mC_172 : mC 172 ∈ wT := wT_in 1612 rfl (by decide +kernel)
set_option maxRecDepth 100000 in
theorem mC_173 : mC 173 ∈ wT := wT_in 1620 rfl (by decide +kernel)
set_option maxRecDepth 100000 in
theorem mC_174 : mC 174 ∈ wT := wT_in 1627 rfl (by decide +kernel)
set_option maxRecDepth 100000 in
theorem mC_175 : mC 175 ∈ wT := wT_in 1572 rfl (by decide +kernel)
set_option maxRecDepth 100000 in
theorem mC_176 : mC 176 ∈ wT := wT_in 1564 rfl (by decide +kernel)
set_option maxRecDepth 100000 in
theorem mC_177 : mC 177 ∈ wT := wT_in 1631 rfl (by decide +kernel)
set_option maxRecDepth 100000 in
theorem mC_178 : mC 178 ∈ wT := wT_in 1552 rfl (by decide +kernel)
set_option maxRecDepth 100000 in
theorem mC_179 : mC 179 ∈ wT := wT_in 1378 rfl (by decide +kernel)
set_option maxRecDepth 100000 in
theorem mC_180 : mC 180 ∈ wT := wT_in 1370 rfl (by decide +kernel)
set_option maxRecDepth 100000 in
theorem mC_181 : mC 181 ∈ wT := wT_in 1374 rfl (by decide +kernel)
set_option maxRecDepth 100000 in
theorem mC_182 : mC 182 ∈ wT := wT_in 1593 rfl (by decide +kernel)
set_option maxRecDepth 100000 in
theorem mC_183 : mC 183 ∈ wT := wT_in 1608 rfl (by decide +kernel)
set_option maxRecDepth 100000 in
theorem mC_184 : mC 184 ∈ wT := wT_in 1616 rfl (by decide +kernel)
set_option maxRecDepth 100000 in
theorem mC_185 : mC 185 ∈ wT := wT_in 1556 rfl (by decide +kernel)
set_option maxRecDepth 100000 in
theorem mC_186 : mC 186 ∈ wT := wT_in 1655 rfl (by decide +kernel)
set_option maxRecDepth 100000 in
theorem mC_187 : mC 187 ∈ wT := wT_in 1651 rfl (by decide +kernel)
set_option maxRecDepth 100000 in
theorem mC_188 : mC 188 ∈ wT := wT_in 1639 rfl (by decide +kernel)
set_option maxRecDepth 100000 in
theorem mC_189 : mC 189 ∈ wT := wT_in 1643 rfl (by decide +kernel)
set_option maxRecDepth 100000 in
theorem mC_190 : mC 190 ∈ wT := wT_in 1660 rfl (by decide +kernel)
set_option maxRecDepth 100000 in
theorem mC_191 : mC 191 ∈ wT := wT_in 1581 rfl (by decide +kernel)
set_option maxRecDepth 100000 in
theorem mC_192 : mC 192 ∈ wT := wT_in 1665 rfl (by decide +kernel)
set_option maxRecDepth 100000 in
theorem mC_193 : mC 193 ∈ wT := wT_in 1647 rfl (by decide +kernel)
set_option maxRecDepth 100000 in
theorem mC_194 : mC 194 ∈ wT := wT_in 1635 rfl (by decide +kernel)
set_option maxRecDepth 100000 in
theorem mC_195 : mC 195 ∈ wT := wT_in 1743 rfl (by decide +kernel)
set_option maxRecDepth 100000 in
theorem mC_196 : mC 196 ∈ wT := wT_in 1746 rfl (by decide +kernel)
set_option maxRecDepth 100000 in
theorem mC_197 : mC 197 ∈ wT := wT_in 1739 rfl (by decide +kernel)
set_option maxRecDepth 100000 in
theorem mC_198 : mC 198 ∈ wT := wT_in 1684 rfl (by decide +kernel)
set_option maxRecDepth 100000 in
theorem mC_199 : mC 199 ∈ wT := wT_in 1679 rfl (by decide +kernel)
set_option maxRecDepth 100000 in
theorem mC_200 : mC 200 ∈ wT := wT_in 1675 rfl (by decide +kernel)
set_option maxRecDepth 100000 in
theorem mC_201 : mC 201 ∈ wT := wT_in 1696 rfl (by decide +kernel)
set_option maxRecDepth 100000 in
theorem mC_202 : mC 202 ∈ wT := wT_in 1692 rfl (by decide +kernel)
set_option maxRecDepth 100000 in
theorem mC_203 : mC 203 ∈ wT := wT_in 1735 rfl (by decide +kernel)
set_option maxRecDepth 100000 in
theorem mC_204 : mC 204 ∈ wT := wT_in 1728 rfl (by decide +kernel)
set_option maxRecDepth 100000 in
theorem mC_205 : mC 205 ∈ wT := wT_in 1731 rfl (by decide +kernel)
set_option maxRecDepth 100000 in
theorem mC_206 : mC 206 ∈ wT := wT_in 1724 rfl (by decide +kernel)
set_option maxRecDepth 100000 in
theorem mC_207 : mC 207 ∈ wT := wT_in 1708 rfl (by decide +kernel)
set_option maxRecDepth 100000 in
theorem mC_208 : mC 208 ∈ wT := wT_in 1716 rfl (by decide +kernel)
set_option maxRecDepth 100000 in
theorem mC_209 : mC 209 ∈ wT := wT_in 1704 rfl (by decide +kernel)
set_option maxRecDepth 100000 in
theorem mC_210 : mC 210 ∈ wT := wT_in 1712 rfl (by decide +kernel)
set_option maxRecDepth 100000 in
theorem mC_211 : mC 211 ∈ wT := wT_in 1700 rfl (by decide +kernel)
set_option maxRecDepth 100000 in
theorem mC_212 : mC 212 ∈ wT := wT_in 1720 rfl (by decide +kernel)
set_option maxRecDepth 100000 in
theorem mC_213 : mC 213 ∈ wT := wT_in 1769 rfl (by decide +kernel)
set_option maxRecDepth 100000 in
theorem mC_214 : mC 214 ∈ wT := wT_in 1765 rfl (by decide +kernel)
set_option maxRecDepth 100000 in
theorem mC_215 : mC 215 ∈ wT := wT_in 1777 rfl (by decide +kernel)
set_option maxRecDepth 100000 in
theorem mC_216 : mC 216 ∈ wT := wT_in 1773 rfl (by decide +kernel)
set_option maxRecDepth 100000 in
theorem mC_217 : mC 217 ∈ wT := wT_in 1750 rfl (by decide +kernel)
set_option maxRecDepth 100000 in
theorem mC_218 : mC 218 ∈ wT := wT_in 1754 rfl (by decide +kernel)
set_option maxRecDepth 100000 in
theorem mC_219 : mC 219 ∈ wT := wT_in 1758 rfl (by decide +kernel)
set_option maxRecDepth 100000 in
theorem mC_220 : mC 220 ∈ wT := wT_in 1785 rfl (by decide +kernel)
set_option maxRecDepth 100000 in
theorem mC_221 : mC 221 ∈ wT := wT_in 1793 rfl (by decide +kernel)
set_option maxRecDepth 100000 in
theorem mC_222 : mC 222 ∈ wT := wT_in 1781 rfl (by decide +kernel)
set_option maxRecDepth 100000 in
theorem mC_223 : mC 223 ∈ wT := wT_in 1797 rfl (by decide +kernel)
set_option maxRecDepth 100000 in
theorem mC_224 : mC 224 ∈ wT := wT_in 1789 rfl (by decide +kernel)
set_option maxRecDepth 100000 in
theorem mC_225 : mC 225 ∈ wT := wT_in 1801 rfl (by decide +kernel)
set_option maxRecDepth 100000 in
theorem mC_226 : mC 226 ∈ wT := wT_in 1805 rfl (by decide +kernel)
set_option maxRecDepth 100000 in
theorem mC_227 : mC 227 ∈ wT := wT_in 1809 rfl (by decide +kernel)
set_option maxRecDepth 100000 in
theorem mC_228 : mC 228 ∈ wT := wT_in 1813 rfl (by decide +kernel)
set_option maxRecDepth 100000 in
theorem mC_229 : mC 229 ∈ wT := wT_in 1820 rfl (by decide +kernel)
set_option maxRecDepth 100000 in
theorem mC_230 : mC 230 ∈ wT := wT_in 1817 rfl (by decide +kernel)
set_option maxRecDepth 100000 in
theorem mC_231 : mC 231 ∈ wT := wT_in 1824 rfl (by decide +kernel)
set_option maxRecDepth 100000 in
theorem mC_232 : mC 232 ∈ wT := wT_in 1828 rfl (by decide +kernel)
set_option maxRecDepth 100000 in
theorem mC_233 : mC 233 ∈ wT := wT_in 1832 rfl (by decide +kernel)
set_option maxRecDepth 100000 in
theorem mC_234 : mC 234 ∈ wT := wT_in 1836 rfl (by decide +kernel)
set_option maxRecDepth 100000 in
theorem mC_235 : mC 235 ∈ wT := wT_in 1844 rfl (by decide +kernel)
set_option maxRecDepth 100000 in
theorem mC_236 : mC 236 ∈ wT := wT_in 1847 rfl (by decide +kernel)
set_option maxRecDepth 100000 in
theorem mC_237 : mC 237 ∈ wT := wT_in 1840 rfl (by decide +kernel)
set_option maxRecDepth 100000 in
theorem mC_238 : mC 238 ∈ wT := wT_in 1852 rfl (by decide +kernel)
set_option maxRecDepth 100000 in
theorem mC_239 : mC 239 ∈ wT := wT_in 1860 rfl (by decide +kernel)
set_option maxRecDepth 100000 in
theorem mC_240 : mC 240 ∈ wT := wT_in 1856 rfl (by decide +kernel)
set_option maxRecDepth 100000 in
theorem mC_241 : mC 241 ∈ wT := wT_in 1864 rfl (by decide +kernel)
set_option maxRecDepth 100000 in
theorem mC_242 : mC 242 ∈ wT := wT_in 1876 rfl (by decide +kernel)
set_option maxRecDepth 100000 in
theorem mC_243 : mC 243 ∈ wT := wT_in 1872 rfl (by decide +kernel)
set_option maxRecDepth 100000 in
theorem mC_244 : mC 244 ∈ wT := wT_in 1868 rfl (by decide +kernel)
set_option maxRecDepth 100000 in
theorem mC_245 : mC 245 ∈ wT := wT_in 1880 rfl (by decide +kernel)
set_option maxRecDepth 100000 in
theorem mC_246 : mC 246 ∈ wT := wT_in 1884 rfl (by decide +kernel)
set_option maxRecDepth 100000 in
theorem mC_247 : mC 247 ∈ wT := wT_in 1892 rfl (by decide +kernel)
set_option maxRecDepth 100000 in
theorem mC_248 : mC 248 ∈ wT := wT_in 1889 rfl (by decide +kernel)
set_option maxRecDepth 100000 in
theorem mC_249 : mC 249 ∈ wT := wT_in 1900 rfl (by decide +kernel)
set_option maxRecDepth 100000 in
theorem mC_250 : mC 250 ∈ wT := wT_in 1896 rfl (by decide +kernel)
set_option maxRecDepth 100000 in
theorem mC_251 : mC 251 ∈ wT := wT_in 1904 rfl (by decide +kernel)
set_option maxRecDepth 100000 in
theorem mC_252 : mC 252 ∈ wT := wT_in 1908 rfl (by decide +kernel)
set_option maxRecDepth 100000 in
theorem mC_253 : mC 253 ∈ wT := wT_in 1912 rfl (by decide +kernel)
set_option maxRecDepth 100000 in
theorem mC_254 : mC 254 ∈ wT := wT_in 1916 rfl (by decide +kernel)
set_option maxRecDepth 100000 in
theorem mC_255 : mC 255 ∈ wT := wT_in 1920 rfl (by decide +kernel)
set_option maxRecDepth 100000 in
theorem mC_256 : mC 256 ∈ wT := wT_in 1924 rfl (by decide +kernel)
set_option maxRecDepth 100000 in
theorem mC_257 : mC 257 ∈ wT := wT_in 1928 rfl (by decide +kernel)
set_option maxRecDepth 100000 in
theorem mC_258 : mC 258 ∈ wT := wT_in 1932 rfl (by decide +kernel)
set_option maxRecDepth 100000 in
theorem mC_259 : mC 259 ∈ wT := wT_in 1936 rfl (by decide +kernel)
set_option maxRecDepth 100000 in
theorem mC_260 : mC 260 ∈ wT := wT_in 1940 rfl (by decide +kernel)
set_option maxRecDepth 100000 in
theorem mC_261 : mC 261 ∈ wT := wT_in 1944 rfl (by decide +kernel)
set_option maxRecDepth 100000 in
theorem mC_262 : mC 262 ∈ wT := wT_in 1948 rfl (by decide +kernel)
set_option maxRecDepth 100000 in
theorem mC_263 : mC 263 ∈ wT := wT_in 1963 rfl (by decide +kernel)
set_option maxRecDepth 100000 in
theorem mC_264 : mC 264 ∈ wT := wT_in 1959 rfl (by decide +kernel)
set_option maxRecDepth 100000 in
theorem mC_265 : mC 265 ∈ wT := wT_in 1955 rfl (by decide +kernel)
set_option maxRecDepth 100000 in
theorem mC_266 : mC 266 ∈ wT := wT_in 1952 rfl (by decide +kernel)
set_option maxRecDepth 100000 in
theorem mC_267 : mC 267 ∈ wT := wT_in 1968 rfl (by decide +kernel)
set_option maxRecDepth 100000 in
theorem mC_268 : mC 268 ∈ wT := wT_in 1980 rfl (by decide +kernel)
set_option maxRecDepth 100000 in
theorem mC_269 : mC 269 ∈ wT := wT_in 1976 rfl (by decide +kernel)
set_option maxRecDepth 100000 in
theorem mC_270 : mC 270 ∈ wT := wT_in 1972 rfl (by decide +kernel)
set_option maxRecDepth 100000 in
theorem mC_271 : mC 271 ∈ wT := wT_in 1984 rfl (by decide +kernel)
set_option maxRecDepth 100000 in
theorem mC_272 : mC 272 ∈ wT := wT_in 1988 rfl (by decide +kernel)
set_option maxRecDepth 100000 in
theorem mC_273 : mC 273 ∈ wT := wT_in 1992 rfl (by decide +kernel)
set_option maxRecDepth 100000 in
theorem mC_274 : mC 274 ∈ wT := wT_in 551 rfl (by decide +kernel)
set_option maxRecDepth 100000 in
theorem mC_275 : mC 275 ∈ wT := wT_in 773 rfl (by decide +kernel)
set_option maxRecDepth 100000 in
theorem mC_276 : mC 276 ∈ wT := wT_in 837 rfl (by decide +kernel)
set_option maxRecDepth 100000 in
theorem mC_277 : mC 277 ∈ wT := wT_in 973 rfl (by decide +kernel)
set_option maxRecDepth 100000 in
theorem mC_278 : mC 278 ∈ wT := wT_in 997 rfl (by decide +kernel)
set_option maxRecDepth 100000 in
theorem mC_279 : mC 279 ∈ wT := wT_in 1021 rfl (by decide +kernel)
set_option maxRecDepth 100000 in
theorem mC_280 : mC 280 ∈ wT := wT_in 1055 rfl (by decide +kernel)
set_option maxRecDepth 100000 in
theorem mC_281 : mC 281 ∈ wT := wT_in 1074 rfl (by decide +kernel)
set_option maxRecDepth 100000 in
theorem mC_282 : mC 282 ∈ wT := wT_in 1082 rfl (by decide +kernel)
set_option maxRecDepth 100000 in
theorem mC_283 : mC 283 ∈ wT := wT_in 1093 rfl (by decide +kernel)
set_option maxRecDepth 100000 in
theorem mC_284 : mC 284 ∈ wT := wT_in 1104 rfl (by decide +kernel)
set_option maxRecDepth 100000 in
theorem mC_285 : mC 285 ∈ wT := wT_in 1115 rfl (by decide +kernel)
set_option maxRecDepth 100000 in
theorem mC_286 : mC 286 ∈ wT := wT_in 1125 rfl (by decide +kernel)
set_option maxRecDepth 100000 in
theorem mC_287 : mC 287 ∈ wT := wT_in 1133 rfl (by decide +kernel)
set_option maxRecDepth 100000 in
theorem mC_288 : mC 288 ∈ wT := wT_in 1140 rfl (by decide +kernel)
set_option maxRecDepth 100000 in
theorem mC_289 : mC 289 ∈ wT := wT_in 1152 rfl (by decide +kernel)
set_option maxRecDepth 100000 in
theorem mC_290 : mC 290 ∈ wT := wT_in 1175 rfl (by decide +kernel)
set_option maxRecDepth 100000 in
theorem mC_291 : mC 291 ∈ wT := wT_in 1183 rfl (by decide +kernel)
set_option maxRecDepth 100000 in
theorem mC_292 : mC 292 ∈ wT := wT_in 1198 rfl (by decide +kernel)
set_option maxRecDepth 100000 in
theorem mC_293 : mC 293 ∈ wT := wT_in 1205 rfl (by decide +kernel)
set_option maxRecDepth 100000 in
theorem mC_294 : mC 294 ∈ wT := wT_in 1212 rfl (by decide +kernel)
set_option maxRecDepth 100000 in
theorem mC_295 : mC 295 ∈ wT := wT_in 1225 rfl (by decide +kernel)
set_option maxRecDepth 100000 in
theorem mC_296 : mC 296 ∈ wT := wT_in 1237 rfl (by decide +kernel)
set_option maxRecDepth 100000 in
theorem mC_297 : mC 297 ∈ wT := wT_in 1247 rfl (by decide +kernel)
set_option maxRecDepth 100000 in
theorem mC_298 : mC 298 ∈ wT := wT_in 1255 rfl (by decide +kernel)
set_option maxRecDepth 100000 in
theorem mC_299 : mC 299 ∈ wT := wT_in 1262 rfl (by decide +kernel)
set_option maxRecDepth 100000 in
theorem mC_300 : mC 300 ∈ wT := wT_in 1269 rfl (by decide +kernel)
set_option maxRecDepth 100000 in
theorem mC_301 : mC 301 ∈ wT := wT_in 1276 rfl (by decide +kernel)
set_option maxRecDepth 100000 in
theorem mC_302 : mC 302 ∈ wT := wT_in 1283 rfl (by decide +kernel)
set_option maxRecDepth 100000 in
theorem mC_303 : mC 303 ∈ wT := wT_in 1290 rfl (by decide +kernel)
set_option maxRecDepth 100000 in
theorem mC_304 : mC 304 ∈ wT := wT_in 1299 rfl (by decide +kernel)
set_option maxRecDepth 100000 in
theorem mC_305 : mC 305 ∈ wT := wT_in 1306 rfl (by decide +kernel)
set_option maxRecDepth 100000 in
theorem mC_306 : mC 306 ∈ wT := wT_in 1313 rfl (by decide +kernel)
set_option maxRecDepth 100000 in
theorem mC_307 : mC 307 ∈ wT := wT_in 1320 rfl (by decide +kernel)
set_option maxRecDepth 100000 in
theorem mC_308 : mC 308 ∈ wT := wT_in 1352 rfl (by decide +kernel)
set_option maxRecDepth 100000 in
theorem mC_310 : mC 310 ∈ wT := wT_in 464 rfl (by decide +kernel)
set_option maxRecDepth 100000 in
theorem mC_311 : mC 311 ∈ wT := wT_in 286 rfl (by decide +kernel)
end
section
/-! LINKS by number, and every row of code checked against the bytes, by program (gen5.py) -/
def yLen : MethodName := ⟨"java/lang/String", "length", "()I"⟩
def yChr : MethodName := ⟨"java/lang/String", "charAt", "(I)C"⟩
def yOf (M : Nat) : MethodName := bif Nat.blt M 9000 then mY M else match M with
  | 9001 => objectInit
  | 9002 => arraycopyName
  | 9003 => yLen
  | 9004 => yChr
  | 9005 => Lib.Math.max.name
  | 9006 => Lib.Math.min.name
  | _ => Lib.MathLoose.min_long.x
def lW (r : Nat × Nat × Nat) : Cond := .methodLink (oS r.1) r.2.1 (yOf r.2.2)
abbrev lT : Type := List (List (List (Nat × Nat × Nat × Nat)))
def lkR : List (Nat × Nat × Nat × Nat) → Nat → Option (Nat × Nat)
  | [], _ => none
  | (j, a, b, _) :: r, i => bif Nat.beq j i then some (a, b) else lkR r i
def lkT (t : lT) (o i : Nat) : Option (Nat × Nat) := match t[o]? with
  | none => none
  | some g => (match g[i / 16]? with
    | none => none
    | some r => lkR r i)
theorem lkR_in : ∀ (l : List (Nat × Nat × Nat × Nat)) (i a b : Nat), lkR l i = some (a, b) → ∃ p, (i, a, b, p) ∈ l := by
  intro l
  induction l with
  | nil => intro i a b h; cases h
  | cons q l ih =>
    intro i a b h
    obtain ⟨j, a', b', p⟩ := q
    unfold lkR at h
    cases hj : Nat.beq j i with
    | true =>
      rw [hj] at h
      have := Nat.eq_of_beq_eq_true hj
      subst this
      simp only [cond_true, Option.some.injEq, Prod.mk.injEq] at h
      obtain ⟨rfl, rfl⟩ := h
      exact ⟨p, List.mem_cons_self⟩
    | false =>
      rw [hj] at h
      obtain ⟨p', hp⟩ := ih i a b h
      exact ⟨p', List.mem_cons_of_mem _ hp⟩
def lTok (F : Nat × Nat × Nat × Nat → Cond) (o : Nat) (g : List (List (Nat × Nat × Nat × Nat))) : Bool := g.all fun r => r.all fun q => decide (lw_tbl[q.2.2.2]? = some (F (o, q.1, q.2.1, q.2.2.1))) && goodWord (F (o, q.1, q.2.1, q.2.2.1))
theorem lT_ok (F : Nat × Nat × Nat × Nat → Cond) (t : lT) (h : ∀ o g, t[o]? = some g → lTok F o g = true) {o i a b : Nat} (hl : lkT t o i = some (a, b)) : F (o, i, a, b) ∈ wT := by
  unfold lkT at hl
  cases hg : t[o]? with
  | none => rw [hg] at hl; cases hl
  | some g =>
    rw [hg] at hl
    dsimp only at hl
    cases hr : g[i / 16]? with
    | none => rw [hr] at hl; cases hl
    | some r =>
      rw [hr] at hl
      obtain ⟨p, hp⟩ := lkR_in r i a b hl
      have h1 := List.all_eq_true.mp (h o g hg) r (List.mem_of_getElem? hr)
      have h2 := List.all_eq_true.mp h1 _ hp
      simp only [Bool.and_eq_true, decide_eq_true_eq] at h2
      exact wT_in p h2.1 h2.2
def lW4 (r : Nat × Nat × Nat × Nat) : Cond := lW (r.1, r.2.1, r.2.2.1)
def MLt_0 : List (List (Nat × Nat × Nat × Nat)) := [[(3, 9001, 0, 263)], [(23, 70, 0, 982), (29, 4, 0, 983)], [(33, 72, 0, 994), (37, 75, 0, 987), (41, 1, 0, 988), (45, 77, 0, 993)]]
set_option maxRecDepth 100000 in
theorem MLt_ok0 : lTok lW4 0 MLt_0 = true := by decide +kernel
def MLt_1 : List (List (Nat × Nat × Nat × Nat)) := [[(3, 9001, 0, 244)], [(25, 10, 0, 449), (29, 11, 0, 453)], [(33, 9006, 0, 456), (39, 9005, 0, 459), (42, 13, 0, 782), (46, 70, 0, 794)], [(52, 76, 0, 834), (56, 14, 0, 786), (59, 71, 0, 810), (62, 19, 0, 797)], [(66, 15, 0, 790), (69, 81, 0, 795), (72, 75, 0, 796), (75, 16, 0, 801), (78, 73, 0, 815)], [(83, 74, 0, 817), (87, 17, 0, 818), (93, 18, 0, 823)], [(97, 77, 0, 809), (100, 78, 0, 805), (103, 72, 0, 814)]]
set_option maxRecDepth 100000 in
theorem MLt_ok1 : lTok lW4 1 MLt_1 = true := by decide +kernel
def MLt_2 : List (List (Nat × Nat × Nat × Nat)) := [[(1, 9001, 0, 403)]]
set_option maxRecDepth 100000 in
theorem MLt_ok2 : lTok lW4 2 MLt_2 = true := by decide +kernel
def MLt_3 : List (List (Nat × Nat × Nat × Nat)) := [[(3, 9001, 0, 493)], [(29, 24, 0, 516)], [(38, 9002, 0, 520)], [(50, 9005, 0, 521)]]
set_option maxRecDepth 100000 in
theorem MLt_ok3 : lTok lW4 3 MLt_3 = true := by decide +kernel
def MLt_4 : List (List (Nat × Nat × Nat × Nat)) := [[(3, 9001, 0, 169)], [], [(35, 41, 0, 429), (39, 310, 0, 462), (45, 27, 0, 468)], [(53, 28, 0, 475), (57, 9005, 0, 479), (62, 31, 0, 1192)]]
set_option maxRecDepth 100000 in
theorem MLt_ok4 : lTok lW4 4 MLt_4 = true := by decide +kernel
def MLt_5 : List (List (Nat × Nat × Nat × Nat)) := [[(3, 9001, 0, 280)], [], [(34, 9002, 0, 281), (40, 311, 0, 284)], [(54, 44, 0, 936), (58, 42, 0, 944), (62, 43, 0, 960)], [(66, 310, 0, 964), (74, 39, 0, 965), (78, 45, 0, 538)], [(82, 9006, 0, 969), (90, 35, 0, 970), (93, 6, 0, 433)], [(102, 7, 0, 437), (105, 8, 0, 441), (109, 9, 0, 445)], [(112, 46, 0, 534), (118, 47, 0, 1007), (121, 51, 0, 1015)]]
set_option maxRecDepth 100000 in
theorem MLt_ok5 : lTok lW4 5 MLt_5 = true := by decide +kernel
def MLt_6 : List (List (Nat × Nat × Nat × Nat)) := [[(1, 9001, 0, 1334)]]
set_option maxRecDepth 100000 in
theorem MLt_ok6 : lTok lW4 6 MLt_6 = true := by decide +kernel
def MLt_7 : List (List (Nat × Nat × Nat × Nat)) := [[(3, 9001, 0, 190)], [(31, 70, 0, 640)], [(37, 73, 0, 648), (41, 58, 0, 660), (45, 72, 0, 758)], [(51, 74, 0, 665), (58, 59, 0, 717), (62, 60, 0, 724)], [(71, 61, 0, 739), (79, 62, 0, 744)], [(83, 63, 0, 749), (88, 64, 0, 754), (91, 77, 0, 720), (95, 75, 0, 728)]]
set_option maxRecDepth 100000 in
theorem MLt_ok7 : lTok lW4 7 MLt_7 = true := by decide +kernel
def MLt_8 : List (List (Nat × Nat × Nat × Nat)) := [[(3, 9001, 0, 138)], [], [(34, 79, 0, 644), (38, 70, 0, 652), (42, 76, 0, 656), (46, 80, 0, 653)], [(50, 9003, 0, 669), (55, 9004, 0, 679), (59, 81, 0, 732), (63, 9006, 0, 736)], [(69, 77, 0, 737)]]
set_option maxRecDepth 100000 in
theorem MLt_ok8 : lTok lW4 8 MLt_8 = true := by decide +kernel
def MLt_9 : List (List (Nat × Nat × Nat × Nat)) := [[(3, 9001, 0, 847)], [(29, 70, 0, 882)], [(37, 87, 0, 883), (41, 73, 0, 893), (45, 84, 0, 894)], [(51, 74, 0, 899), (63, 85, 0, 900)], [(75, 88, 0, 888), (79, 72, 0, 892)], [(85, 86, 0, 910), (88, 77, 0, 914), (92, 75, 0, 904)], [(99, 71, 0, 887), (103, 91, 0, 920), (107, 90, 0, 924), (110, 92, 0, 928)], [(120, 34, 0, 932), (126, 35, 0, 940)], [(129, 36, 0, 948), (132, 37, 0, 952), (137, 38, 0, 956)]]
set_option maxRecDepth 100000 in
theorem MLt_ok9 : lTok lW4 9 MLt_9 = true := by decide +kernel
def MLt_10 : List (List (Nat × Nat × Nat × Nat)) := [[(1, 9001, 0, 130)], [], [(38, 5, 0, 241)], [(52, 32, 0, 277), (62, 66, 0, 367)], [(66, 67, 0, 371), (74, 145, 0, 557), (78, 57, 0, 636)], [(82, 69, 0, 762), (86, 146, 0, 766), (92, 12, 0, 778)], [(99, 83, 0, 878), (102, 147, 0, 395), (110, 89, 0, 915)], [(126, 3, 0, 978)], [(135, 148, 0, 383)], [(151, 43, 0, 1002), (154, 48, 0, 1003), (157, 53, 0, 1011)], [(163, 139, 0, 566), (166, 142, 0, 1027), (173, 44, 0, 1050)], [(177, 47, 0, 1051), (180, 51, 0, 1052), (183, 143, 0, 1060)], [(201, 50, 0, 530), (204, 52, 0, 1064), (207, 49, 0, 1068)], [(210, 46, 0, 1079), (214, 144, 0, 1087), (220, 40, 0, 1098)], [(224, 141, 0, 562), (228, 6, 0, 1109), (231, 7, 0, 1110), (234, 8, 0, 1111), (237, 9, 0, 1112)], [(240, 159, 0, 1120), (243, 33, 0, 387), (247, 38, 0, 1130), (251, 149, 0, 1145), (254, 42, 0, 1252)], [(258, 9005, 0, 1149), (263, 310, 0, 1295), (268, 39, 0, 1296)], [(272, 150, 0, 1157), (277, 151, 0, 1167), (281, 9007, 0, 1170), (285, 41, 0, 1165)], [(289, 1, 0, 1180), (292, 26, 0, 425), (295, 29, 0, 480), (298, 30, 0, 1188), (303, 21, 0, 490)], [(304, 23, 0, 512), (307, 22, 0, 522), (316, 154, 0, 1217)], [(320, 153, 0, 1220), (324, 158, 0, 1230), (328, 152, 0, 1231), (331, 9006, 0, 561), (333, 157, 0, 1242)], [(337, 155, 0, 1325)], [(352, 140, 0, 1031), (355, 68, 0, 632), (358, 20, 0, 400), (366, 2, 0, 1161)], [(371, 54, 0, 1331), (373, 156, 0, 1339), (377, 55, 0, 1343), (380, 34, 0, 1348), (383, 36, 0, 1349)]]
set_option maxRecDepth 100000 in
theorem MLt_ok10 : lTok lW4 10 MLt_10 = true := by decide +kernel
def MLt_11 : List (List (Nat × Nat × Nat × Nat)) := [[(11, 9001, 0, 1366)], [], [], [], [], [], [(98, 180, 0, 1367), (101, 181, 0, 1371)], [(119, 167, 0, 1573), (123, 168, 0, 1584), (127, 9003, 0, 1582)], [(132, 9004, 0, 1583), (136, 165, 0, 1565), (140, 169, 0, 1621), (143, 166, 0, 1601)], [], [], [(177, 179, 0, 1375)], [(198, 171, 0, 1595)], [(208, 173, 0, 1617), (212, 161, 0, 1557), (216, 176, 0, 1561), (220, 175, 0, 1569)], [(225, 191, 0, 1578), (229, 170, 0, 1587), (232, 182, 0, 1591), (235, 183, 0, 1605), (239, 172, 0, 1609)], [(242, 184, 0, 1613), (246, 174, 0, 1624), (249, 177, 0, 1628)], [(256, 189, 0, 1640), (259, 186, 0, 1652), (262, 193, 0, 1644), (265, 187, 0, 1648), (268, 188, 0, 1636)], [(284, 190, 0, 1657)], [(289, 192, 0, 1662), (292, 196, 0, 1744), (296, 195, 0, 1740)], [(304, 198, 0, 1681), (316, 199, 0, 1676), (319, 202, 0, 1689)], [(331, 201, 0, 1693), (334, 211, 0, 1697)], [(338, 197, 0, 1736), (341, 204, 0, 1725), (344, 205, 0, 1729), (347, 203, 0, 1732), (351, 207, 0, 1705)], [(354, 209, 0, 1701), (358, 210, 0, 1709), (361, 208, 0, 1713), (364, 212, 0, 1717), (367, 206, 0, 1721)], [(370, 213, 0, 1766), (373, 215, 0, 1774), (376, 162, 0, 1759), (379, 214, 0, 1762), (382, 216, 0, 1770)], [(385, 220, 0, 1782), (388, 221, 0, 1790), (391, 223, 0, 1794), (394, 229, 0, 1818), (397, 234, 0, 1833)], [(402, 235, 0, 1841), (405, 236, 0, 1845), (409, 239, 0, 1857), (412, 242, 0, 1873), (415, 243, 0, 1869)], [(420, 247, 0, 1890), (424, 249, 0, 1897), (431, 263, 0, 1960)], [(434, 265, 0, 1953), (437, 264, 0, 1956), (440, 268, 0, 1977), (444, 269, 0, 1973)]]
set_option maxRecDepth 100000 in
theorem MLt_ok11 : lTok lW4 11 MLt_11 = true := by decide +kernel
def MLt_12 : List (List (Nat × Nat × Nat × Nat)) := [[(7, 95, 0, 553), (15, 96, 0, 774)], [(18, 97, 0, 838), (21, 98, 0, 974), (24, 103, 0, 998), (27, 104, 0, 1023)], [(33, 105, 0, 1056), (36, 106, 0, 1075), (39, 107, 0, 1083), (42, 108, 0, 1094), (45, 109, 0, 1105)], [(49, 110, 0, 1116), (53, 111, 0, 1126), (56, 112, 0, 1134), (59, 113, 0, 1141), (62, 117, 0, 1153)], [(65, 118, 0, 1176), (68, 120, 0, 1184), (71, 122, 0, 1199), (74, 123, 0, 1206), (78, 124, 0, 1213)], [(82, 125, 0, 1226), (85, 126, 0, 1238), (88, 127, 0, 1248), (91, 128, 0, 1256), (94, 129, 0, 1263)], [(97, 130, 0, 1270), (100, 131, 0, 1277), (103, 115, 0, 1284), (106, 116, 0, 1291), (109, 133, 0, 1300)], [(112, 114, 0, 1307), (115, 134, 0, 1314), (118, 135, 0, 1321), (121, 136, 0, 1353), (125, 93, 0, 127)], [(128, 163, 0, 1363), (129, 94, 0, 363), (132, 164, 0, 1545), (133, 274, 0, 549), (138, 185, 0, 1553), (139, 160, 0, 1357), (143, 275, 0, 771)], [(145, 194, 0, 1632), (146, 276, 0, 835), (148, 200, 0, 1672), (149, 277, 0, 971), (151, 217, 0, 1747), (152, 99, 0, 375), (155, 178, 0, 1549), (156, 100, 0, 379), (159, 218, 0, 1751)], [(160, 278, 0, 995), (162, 219, 0, 1755), (163, 279, 0, 1019), (166, 222, 0, 1778), (167, 280, 0, 1053), (169, 224, 0, 1786), (170, 281, 0, 1072), (172, 225, 0, 1798), (173, 282, 0, 1080), (175, 226, 0, 1802)], [(176, 283, 0, 1091), (178, 227, 0, 1806), (179, 284, 0, 1102), (182, 228, 0, 1810), (183, 285, 0, 1113), (186, 230, 0, 1814), (187, 286, 0, 1123), (189, 231, 0, 1821), (190, 287, 0, 1131)], [(192, 232, 0, 1825), (193, 288, 0, 1138), (195, 233, 0, 1829), (196, 289, 0, 1150), (198, 237, 0, 1837), (199, 290, 0, 1173), (201, 238, 0, 1849), (202, 119, 0, 421), (205, 240, 0, 1853), (206, 291, 0, 1181)], [(208, 241, 0, 1861), (209, 121, 0, 484), (212, 244, 0, 1865), (213, 292, 0, 1196), (215, 245, 0, 1877), (216, 293, 0, 1203), (218, 246, 0, 1881), (219, 294, 0, 1210), (222, 248, 0, 1886), (223, 295, 0, 1223)], [(225, 250, 0, 1893), (226, 296, 0, 1235), (228, 251, 0, 1901), (229, 297, 0, 1245), (231, 252, 0, 1905), (232, 298, 0, 1253), (234, 253, 0, 1909), (235, 299, 0, 1260), (237, 254, 0, 1913), (238, 300, 0, 1267)], [(240, 255, 0, 1917), (241, 301, 0, 1274), (243, 256, 0, 1921), (244, 302, 0, 1281), (246, 257, 0, 1925), (247, 303, 0, 1288), (249, 258, 0, 1929), (250, 132, 0, 526), (253, 259, 0, 1933), (254, 304, 0, 1297)], [(256, 260, 0, 1937), (257, 305, 0, 1304), (259, 261, 0, 1941), (260, 306, 0, 1311), (262, 262, 0, 1945), (263, 307, 0, 1318), (265, 266, 0, 1949), (266, 308, 0, 1350), (269, 267, 0, 1965), (270, 101, 0, 391)], [(273, 270, 0, 1969), (274, 102, 0, 417), (277, 271, 0, 1981), (278, 137, 0, 541), (281, 272, 0, 1985), (282, 138, 0, 545), (285, 273, 0, 1989)]]
set_option maxRecDepth 100000 in
theorem MLt_ok12 : lTok lW4 12 MLt_12 = true := by decide +kernel
def MLt_13 : List (List (Nat × Nat × Nat × Nat)) := []
set_option maxRecDepth 100000 in
theorem MLt_ok13 : lTok lW4 13 MLt_13 = true := by decide +kernel
def MLt_14 : List (List (Nat × Nat × Nat × Nat)) := []
set_option maxRecDepth 100000 in
theorem MLt_ok14 : lTok lW4 14 MLt_14 = true := by decide +kernel
def MLt_15 : List (List (Nat × Nat × Nat × Nat)) := []
set_option maxRecDepth 100000 in
theorem MLt_ok15 : lTok lW4 15 MLt_15 = true := by decide +kernel
def MLt : lT := [MLt_0, MLt_1, MLt_2, MLt_3, MLt_4, MLt_5, MLt_6, MLt_7, MLt_8, MLt_9, MLt_10, MLt_11, MLt_12, MLt_13, MLt_14, MLt_15]
theorem MLt_ok {o i a b : Nat} (hl : lkT MLt o i = some (a, b)) : lW4 (o, i, a, b) ∈ wT := by
  refine lT_ok lW4 MLt (fun o g h => ?_) hl
  match o, h with
  | 0, h => cases h; exact MLt_ok0
  | 1, h => cases h; exact MLt_ok1
  | 2, h => cases h; exact MLt_ok2
  | 3, h => cases h; exact MLt_ok3
  | 4, h => cases h; exact MLt_ok4
  | 5, h => cases h; exact MLt_ok5
  | 6, h => cases h; exact MLt_ok6
  | 7, h => cases h; exact MLt_ok7
  | 8, h => cases h; exact MLt_ok8
  | 9, h => cases h; exact MLt_ok9
  | 10, h => cases h; exact MLt_ok10
  | 11, h => cases h; exact MLt_ok11
  | 12, h => cases h; exact MLt_ok12
  | 13, h => cases h; exact MLt_ok13
  | 14, h => cases h; exact MLt_ok14
  | 15, h => cases h; exact MLt_ok15
  | n + 16, h => exact absurd h (by simp [MLt])
def FLt_0 : List (List (Nat × Nat × Nat × Nat)) := [[(9, 0, 0, 264), (15, 0, 1, 265)], [], [], [(48, 0, 2, 266)]]
set_option maxRecDepth 100000 in
theorem FLt_ok0 : lTok fW 0 FLt_0 = true := by decide +kernel
def FLt_1 : List (List (Nat × Nat × Nat × Nat)) := [[(9, 1, 0, 245), (15, 1, 1, 246)], [(18, 1, 2, 247), (21, 1, 3, 248)]]
set_option maxRecDepth 100000 in
theorem FLt_ok1 : lTok fW 1 FLt_1 = true := by decide +kernel
def FLt_2 : List (List (Nat × Nat × Nat × Nat)) := [[(7, 2, 0, 404), (13, 2, 1, 406)], [(17, 2, 2, 408)]]
set_option maxRecDepth 100000 in
theorem FLt_ok2 : lTok fW 2 FLt_2 = true := by decide +kernel
def FLt_3 : List (List (Nat × Nat × Nat × Nat)) := [[(9, 3, 1, 495), (15, 3, 2, 496)], [(18, 3, 3, 497), (21, 3, 4, 499), (25, 3, 0, 494)], [(33, 7, 6, 213), (44, 7, 3, 200), (47, 7, 7, 216)]]
set_option maxRecDepth 100000 in
theorem FLt_ok3 : lTok fW 3 FLt_3 = true := by decide +kernel
def FLt_4 : List (List (Nat × Nat × Nat × Nat)) := [[(9, 4, 0, 170), (15, 4, 1, 171)], [(24, 7, 4, 202), (30, 4, 2, 172), (31, 7, 5, 207)], [(34, 4, 3, 173)]]
set_option maxRecDepth 100000 in
theorem FLt_ok4 : lTok fW 4 FLt_4 = true := by decide +kernel
def FLt_5 : List (List (Nat × Nat × Nat × Nat)) := [[(9, 5, 1, 289), (15, 5, 2, 291)], [(18, 5, 3, 293), (21, 5, 4, 295), (24, 5, 5, 297), (27, 5, 0, 287), (31, 7, 0, 192)], [(46, 7, 8, 219)], [(50, 5, 7, 301), (51, 5, 6, 298)], [(71, 7, 5, 211)], [(87, 7, 2, 197)], [(99, 7, 1, 194)], [(115, 7, 4, 206)]]
set_option maxRecDepth 100000 in
theorem FLt_ok5 : lTok fW 5 FLt_5 = true := by decide +kernel
def FLt_6 : List (List (Nat × Nat × Nat × Nat)) := [[(7, 6, 0, 1335)]]
set_option maxRecDepth 100000 in
theorem FLt_ok6 : lTok fW 6 FLt_6 = true := by decide +kernel
def FLt_7 : List (List (Nat × Nat × Nat × Nat)) := [[(9, 7, 0, 191), (15, 7, 1, 193)], [(18, 7, 2, 196), (21, 7, 3, 199), (24, 7, 7, 215), (28, 7, 8, 218)], [], [(55, 7, 4, 203)], [(68, 7, 5, 210), (76, 7, 6, 212)]]
set_option maxRecDepth 100000 in
theorem FLt_ok7 : lTok fW 7 FLt_7 = true := by decide +kernel
def FLt_8 : List (List (Nat × Nat × Nat × Nat)) := [[(9, 8, 0, 139), (15, 8, 2, 142)], [(19, 8, 1, 140), (22, 8, 4, 145), (25, 8, 5, 146), (28, 8, 6, 147), (31, 8, 3, 144)]]
set_option maxRecDepth 100000 in
theorem FLt_ok8 : lTok fW 8 FLt_8 = true := by decide +kernel
def FLt_9 : List (List (Nat × Nat × Nat × Nat)) := [[(11, 9, 0, 848), (15, 9, 1, 849)], [(18, 9, 2, 850), (21, 9, 3, 851), (26, 9, 4, 852)], [(33, 9, 5, 853)], [(55, 7, 5, 208), (60, 7, 4, 204)], [], [], [(96, 9, 6, 854)], [(114, 9, 7, 856), (117, 9, 8, 858)], [(135, 5, 6, 300)]]
set_option maxRecDepth 100000 in
theorem FLt_ok9 : lTok fW 9 FLt_9 = true := by decide +kernel
def FLt_10 : List (List (Nat × Nat × Nat × Nat)) := [[(10, 10, 0, 320)], [(19, 10, 1, 321), (25, 10, 2, 322)], [(32, 10, 3, 323), (39, 10, 4, 324), (46, 10, 5, 325)], [(55, 10, 6, 326), (59, 10, 7, 327)], [(70, 8, 1, 141)], [(89, 7, 5, 209), (93, 10, 9, 329)], [(106, 10, 8, 328)], [(114, 9, 8, 857), (117, 10, 11, 331), (120, 9, 7, 855), (123, 7, 4, 205)], [(129, 0, 2, 267), (132, 8, 2, 143), (139, 10, 10, 330), (142, 7, 6, 214)], [(145, 5, 6, 299), (148, 5, 7, 302)], [(160, 7, 7, 217), (169, 5, 1, 290)], [(186, 7, 1, 195), (189, 7, 2, 198)], [(192, 5, 2, 292), (195, 5, 3, 294), (198, 5, 4, 296)], [(217, 7, 3, 201)], [], [], [], [], [], [(310, 3, 4, 500), (313, 3, 3, 498)], [], [(340, 10, 12, 332), (343, 10, 13, 333)], [(361, 2, 0, 405), (364, 2, 1, 407), (365, 2, 2, 409)]]
set_option maxRecDepth 100000 in
theorem FLt_ok10 : lTok fW 10 FLt_10 = true := by decide +kernel
def FLt_11 : List (List (Nat × Nat × Nat × Nat)) := [[(3, 11, 0, 1379), (7, 11, 1, 1380)], [(17, 11, 8, 1387), (20, 11, 9, 1388), (23, 11, 10, 1389), (26, 11, 11, 1390), (29, 11, 12, 1391)], [(32, 11, 13, 1392), (35, 11, 14, 1393), (38, 11, 15, 1394), (41, 11, 16, 1395), (44, 11, 26, 1405), (47, 11, 27, 1406)], [(50, 11, 28, 1407), (53, 11, 29, 1408), (56, 11, 30, 1409), (59, 11, 33, 1412), (62, 11, 34, 1413)], [(65, 11, 35, 1414), (68, 11, 42, 1421), (71, 11, 43, 1422), (74, 11, 44, 1423), (77, 11, 45, 1424)], [(80, 11, 46, 1425), (83, 11, 47, 1426), (86, 11, 49, 1428), (89, 11, 50, 1429), (92, 11, 51, 1430), (95, 11, 53, 1432)], [(104, 11, 2, 1381), (107, 11, 5, 1384), (110, 11, 6, 1385)], [(113, 11, 4, 1383), (116, 11, 3, 1382)], [], [(147, 11, 7, 1386), (150, 11, 17, 1396), (153, 11, 18, 1397), (156, 11, 19, 1398), (159, 11, 20, 1399)], [(162, 11, 21, 1400), (165, 11, 22, 1401), (168, 11, 23, 1402), (171, 11, 24, 1403), (174, 11, 25, 1404)], [(181, 11, 32, 1411), (184, 11, 48, 1427), (187, 11, 37, 1416), (190, 11, 54, 1433)], [(193, 11, 38, 1417)], [], [], [(253, 11, 31, 1410)], [], [], [(299, 11, 36, 1415)], [], [(322, 11, 39, 1418), (325, 11, 40, 1419), (328, 11, 41, 1420)], [], [], [], [], [], [(427, 11, 52, 1431)]]
set_option maxRecDepth 100000 in
theorem FLt_ok11 : lTok fW 11 FLt_11 = true := by decide +kernel
def FLt_12 : List (List (Nat × Nat × Nat × Nat)) := []
set_option maxRecDepth 100000 in
theorem FLt_ok12 : lTok fW 12 FLt_12 = true := by decide +kernel
def FLt_13 : List (List (Nat × Nat × Nat × Nat)) := []
set_option maxRecDepth 100000 in
theorem FLt_ok13 : lTok fW 13 FLt_13 = true := by decide +kernel
def FLt_14 : List (List (Nat × Nat × Nat × Nat)) := []
set_option maxRecDepth 100000 in
theorem FLt_ok14 : lTok fW 14 FLt_14 = true := by decide +kernel
def FLt_15 : List (List (Nat × Nat × Nat × Nat)) := []
set_option maxRecDepth 100000 in
theorem FLt_ok15 : lTok fW 15 FLt_15 = true := by decide +kernel
def FLt : lT := [FLt_0, FLt_1, FLt_2, FLt_3, FLt_4, FLt_5, FLt_6, FLt_7, FLt_8, FLt_9, FLt_10, FLt_11, FLt_12, FLt_13, FLt_14, FLt_15]
theorem FLt_ok {o i a b : Nat} (hl : lkT FLt o i = some (a, b)) : fW (o, i, a, b) ∈ wT := by
  refine lT_ok fW FLt (fun o g h => ?_) hl
  match o, h with
  | 0, h => cases h; exact FLt_ok0
  | 1, h => cases h; exact FLt_ok1
  | 2, h => cases h; exact FLt_ok2
  | 3, h => cases h; exact FLt_ok3
  | 4, h => cases h; exact FLt_ok4
  | 5, h => cases h; exact FLt_ok5
  | 6, h => cases h; exact FLt_ok6
  | 7, h => cases h; exact FLt_ok7
  | 8, h => cases h; exact FLt_ok8
  | 9, h => cases h; exact FLt_ok9
  | 10, h => cases h; exact FLt_ok10
  | 11, h => cases h; exact FLt_ok11
  | 12, h => cases h; exact FLt_ok12
  | 13, h => cases h; exact FLt_ok13
  | 14, h => cases h; exact FLt_ok14
  | 15, h => cases h; exact FLt_ok15
  | n + 16, h => exact absurd h (by simp [FLt])
def MNs : List (Nat × Nat × Nat) := [(0, 19, 158), (4, 49, 158), (10, 9, 65), (10, 18, 25), (10, 31, 56), (10, 45, 0), (10, 98, 82)]
def nW (r : Nat × Nat × Nat) : Cond := .methodLinkNest (oS r.1) r.2.1 (yOf r.2.2) "StillYear"
def fN : Cond := .fieldLinkNest "StillYear$Places" 18 "StillYear$Scene" "studio" "LStillYear$Studio;" "StillYear"
set_option maxRecDepth 100000 in
theorem MN_in : ∀ r ∈ MNs, nW r ∈ lw_tbl := by
  intro r hr
  have h : (List.zip [992, 472, 135, 166, 187, 260, 844] MNs).all (fun q => decide (lw_tbl[q.1]? = some (nW q.2))) = true := by decide +kernel
  have hz : (List.zip [992, 472, 135, 166, 187, 260, 844] MNs).map (·.2) = MNs := by decide +kernel
  rw [← hz] at hr
  obtain ⟨q, hq, rfl⟩ := List.mem_map.mp hr
  exact List.mem_of_getElem? (of_decide_eq_true (List.all_eq_true.mp h q hq))
theorem fN_in : fN ∈ lw_tbl := List.mem_of_getElem? (i := 288) (by decide +kernel)
def eC (k : Nat) : String := match k with
  | 0 => "java/lang/IllegalArgumentException"
  | _ => "java/util/NoSuchElementException"
def clN (c : Nat) : String := bif Nat.ble 100 c then eC (c - 100) else (match vwCl[c]? with | some q => q.1 | none => "")
def cW (r : Nat × Nat × Nat) : Cond := .classLink (oS r.1) r.2.1 (clN r.2.2)
def CLp : List (Nat × Nat × Nat × Nat) := [(133, 10, 7, 8), (164, 10, 16, 4), (183, 10, 23, 2), (185, 10, 29, 7), (239, 10, 36, 1), (258, 10, 43, 0), (275, 10, 50, 5), (842, 10, 96, 9), (488, 10, 301, 3), (570, 10, 346, 100), (1035, 10, 349, 101), (1329, 10, 369, 6), (125, 12, 8, 10), (1361, 12, 126, 11)]
def CLs : List (Nat × Nat × Nat) := CLp.map (·.2)
set_option maxRecDepth 100000 in
theorem CL_ok : ∀ r ∈ CLs, cW r ∈ wT := by
  intro r hr
  obtain ⟨q, hq, rfl⟩ := List.mem_map.mp hr
  exact wT_all cW CLp (by decide +kernel) q hq
def iW (c : Nat) : Cond := match vwCl[c]? with | some q => .instantiable q.1 q.2.2 | none => .tt
def zW (c : Nat) : Cond := .initialized (clN c)
def INp : List (Nat × Nat) := [(259, 0), (240, 1), (399, 2), (489, 3), (165, 4), (276, 5), (1330, 6), (186, 7), (134, 8), (843, 9), (126, 10), (1362, 11)]
def INz : List (Nat × Nat) := [(105, 0), (104, 1), (120, 2), (123, 3), (102, 4), (106, 5), (124, 6), (103, 7), (101, 8), (119, 9), (100, 10), (109, 11), (114, 100), (122, 101)]
set_option maxRecDepth 100000 in
theorem IN_ok : ∀ c, c < 12 → iW c ∈ wT := by
  intro c hc
  have h := wT_all iW INp (by decide +kernel)
  have hz : ∀ c, c < 12 → ∃ q ∈ INp, q.2 = c := by decide +kernel
  obtain ⟨q, hq, rfl⟩ := hz c hc
  exact h q hq
set_option maxRecDepth 100000 in
theorem INz_ok : ∀ q ∈ INz, zW q.2 ∈ wT := wT_all zW INz (by decide +kernel)
theorem wU_all (C : String) (T : u_T) (N : Nat) (ps : List Nat) (h : (ps.map (fun i => lw_tbl[i]?) == (u_ws C T N).map some) = true) (g : (u_ws C T N).all goodWord = true) : ∀ w ∈ u_ws C T N, w ∈ wT := by
  intro w hw
  have h1 : ps.map (fun i => lw_tbl[i]?) = (u_ws C T N).map some := eq_of_beq h
  have h2 : some w ∈ ps.map (fun i => lw_tbl[i]?) := by rw [h1]; exact List.mem_map_of_mem hw
  obtain ⟨i, -, hi⟩ := List.mem_map.mp h2
  exact wT_in i hi (List.all_eq_true.mp g w hw)
set_option maxRecDepth 100000 in
theorem wU_0 : ∀ w ∈ u_ws RX0 TX0 3, w ∈ wT := wU_all _ _ _ [268, 270, 272] (by decide +kernel) (by decide +kernel)
set_option maxRecDepth 100000 in
theorem wU_1 : ∀ w ∈ u_ws RX1 TX1 4, w ∈ wT := wU_all _ _ _ [249, 251, 253, 255] (by decide +kernel) (by decide +kernel)
set_option maxRecDepth 100000 in
theorem wU_2 : ∀ w ∈ u_ws RX2 TX2 3, w ∈ wT := wU_all _ _ _ [410, 412, 414] (by decide +kernel) (by decide +kernel)
set_option maxRecDepth 100000 in
theorem wU_3 : ∀ w ∈ u_ws RX3 TX3 5, w ∈ wT := wU_all _ _ _ [501, 503, 505, 507, 509] (by decide +kernel) (by decide +kernel)
set_option maxRecDepth 100000 in
theorem wU_4 : ∀ w ∈ u_ws RX4 TX4 4, w ∈ wT := wU_all _ _ _ [174, 176, 178, 180] (by decide +kernel) (by decide +kernel)
set_option maxRecDepth 100000 in
theorem wU_5 : ∀ w ∈ u_ws RX5 TX5 8, w ∈ wT := wU_all _ _ _ [303, 305, 307, 309, 311, 313, 315, 317] (by decide +kernel) (by decide +kernel)
set_option maxRecDepth 100000 in
theorem wU_6 : ∀ w ∈ u_ws RX6 TX6 1, w ∈ wT := wU_all _ _ _ [1336] (by decide +kernel) (by decide +kernel)
set_option maxRecDepth 100000 in
theorem wU_7 : ∀ w ∈ u_ws RX7 TX7 9, w ∈ wT := wU_all _ _ _ [220, 222, 224, 226, 228, 230, 232, 234, 236] (by decide +kernel) (by decide +kernel)
set_option maxRecDepth 100000 in
theorem wU_8 : ∀ w ∈ u_ws RX8 TX8 7, w ∈ wT := wU_all _ _ _ [148, 150, 152, 154, 156, 158, 160] (by decide +kernel) (by decide +kernel)
set_option maxRecDepth 100000 in
theorem wU_9 : ∀ w ∈ u_ws RX9 TX9 9, w ∈ wT := wU_all _ _ _ [859, 861, 863, 865, 867, 869, 871, 873, 875] (by decide +kernel) (by decide +kernel)
set_option maxRecDepth 100000 in
theorem wU_10 : ∀ w ∈ u_ws RX10 TX10 14, w ∈ wT := wU_all _ _ _ [334, 336, 338, 340, 342, 344, 346, 348, 350, 352, 354, 356, 358, 360] (by decide +kernel) (by decide +kernel)
set_option maxRecDepth 100000 in
theorem wU_11 : ∀ w ∈ u_ws RX11 TX11 55, w ∈ wT := wU_all _ _ _ [1434, 1436, 1438, 1440, 1442, 1444, 1446, 1448, 1450, 1452, 1454, 1456, 1458, 1460, 1462, 1464, 1466, 1468, 1470, 1472, 1474, 1476, 1478, 1480, 1482, 1484, 1486, 1488, 1490, 1492, 1494, 1496, 1498, 1500, 1502, 1504, 1506, 1508, 1510, 1512, 1514, 1516, 1518, 1520, 1522, 1524, 1526, 1528, 1530, 1532, 1534, 1536, 1538, 1540, 1542] (by decide +kernel) (by decide +kernel)
def kW (r : Nat × Nat × Int) : Cond := .constant (oS r.1) r.2.1 (Int32.ofInt r.2.2)
def CKp : List (Nat × Nat × Nat × Int) := [(1347, 6, 13, 1103515245), (735, 8, 62, 1000000), (919, 9, 102, 100000), (1964, 11, 430, 1103515245), (465, 13, 265, 1431655765), (466, 13, 266, 858993459), (467, 13, 267, 252645135)]
def CKs : List (Nat × Nat × Int) := CKp.map (·.2)
set_option maxRecDepth 100000 in
theorem CK_ok : ∀ r ∈ CKs, kW r ∈ wT := by
  intro r hr
  obtain ⟨q, hq, rfl⟩ := List.mem_map.mp hr
  exact wT_all kW CKp (by decide +kernel) q hq
def jW (r : Nat × Nat × Int) : Cond := .constantLong (oS r.1) r.2.1 (Int64.ofInt r.2.2)
def CJp : List (Nat × Nat × Nat × Int) := [(1166, 10, 275, 1000000000), (1848, 11, 400, 1000000000), (1885, 11, 418, 16)]
def CJs : List (Nat × Nat × Int) := CJp.map (·.2)
set_option maxRecDepth 100000 in
theorem CJ_ok : ∀ r ∈ CJs, jW r ∈ wT := by
  intro r hr
  obtain ⟨q, hq, rfl⟩ := List.mem_map.mp hr
  exact wT_all jW CJp (by decide +kernel) q hq
def SKs : List (Nat × Nat) := [(7, 49), (7, 66), (7, 74), (7, 82), (7, 86), (1, 81), (1, 91), (1, 107), (1, 109), (1, 111), (1, 113), (1, 115), (1, 117), (1, 119), (1, 121), (9, 49), (9, 67), (9, 69), (9, 71), (9, 73), (9, 83), (11, 223), (11, 196), (11, 202), (11, 204), (11, 206), (11, 282), (11, 287), (11, 271), (11, 273), (11, 274), (11, 276), (11, 278), (11, 280), (11, 302), (11, 308), (11, 310), (11, 312), (11, 314)]
def sTx : List String := ["seat", "sitter", "sitting", "year", "food", "least", "most", "light", "dark", "still", "hunger", "seat", "sitter", "others", "day", "sit", "rise", "feed", "curtain", "day", "again", "sitting", "seat", "sitter", "year", "food", "least", "most", "light", "dark", "still", "hunger", "others", "day", "curtain", "sit", "rise", "feed", "again"]
/-- the field's type is a reference's -/
def isRf (t : FieldType) : Bool := match t with
  | .object _ => true
  | .array _ => true
  | _ => false
def fTy (c k : Nat) : Option FieldType := match vwCl[c]? with
  | some q => parseFieldDescriptor (q.2.1 k).2.2.1
  | none => none
def fFin (c k : Nat) : Bool := match vwCl[c]? with
  | some q => (q.2.1 k).2.2.2
  | none => false
def fN_ (c : Nat) : Nat := match vwCl[c]? with
  | some q => q.2.2
  | none => 0
def fDc (c k : Nat) : String := match vwCl[c]? with
  | some q => (q.2.1 k).1
  | none => ""
def nPar (M : Nat) : Option Nat := (parseMethodDescriptor (mY M).desc).map (fun d => d.parameters.length)
def rTc (t : Option FieldType) (x : Int) : Bool := match t with
  | none => decide (x = 0)
  | some .long => decide (x = 2)
  | some .int => decide (x = 1)
  | some .boolean => decide (x = 1)
  | some (.object _) => decide (x = 3)
  | _ => false
/-- a call: the callee's kind, its parameters, what it returns -/
def okC (M kind : Nat) (x : Int) (a b : Nat) (idx : Nat) : Bool := Nat.blt a 312 && rTc (mT a) x && (match kind with
  | 0 => Nat.beq (mK a) 0 && decide (nPar a = some (b - 1)) && Nat.ble 1 b && (lkT MLt (mO M) idx == some (a, 0))
  | 1 => (Nat.beq (mK a) 1 || Nat.beq (mK a) 3) && decide (nPar a = some b) && ((lkT MLt (mO M) idx == some (a, 0)) || Nat.beq (mK a) 1 && MNs.contains (mO M, idx, a))
  | _ => Nat.beq (mK a) 2 && decide (nPar a = some (b - 1)) && Nat.ble 1 b && ((lkT MLt (mO M) idx == some (a, 0)) || MNs.contains (mO M, idx, a)))
def swT (l : List Int) (pc : Nat) (lo : Int) : List (Int32 × Nat) := match l with
  | [] => []
  | z :: r => (Int32.ofInt lo, ((pc : Int) + z).toNat) :: swT r pc (lo + 1)
def tgt (pc : Nat) (z : Int) (a : Nat) : Bool := decide ((pc : Int) + z = (a : Int))
def cdN (c : ClassFile.Cond) : Nat := match c with
  | .eq => 0
  | .ne => 1
  | .lt => 2
  | .ge => 3
  | .gt => 4
  | .le => 5
def okI (M pc op : Nat) (x : Int) (a b : Nat) (i : Instr) : Bool := match i with
  | .iconst v => Nat.beq op 0 && decide (x = v)
  | .bipush v => Nat.beq op 0 && decide (Int32.ofInt x = (Int8.ofInt v).toInt32)
  | .sipush v => Nat.beq op 0 && decide (Int32.ofInt x = (Int16.ofInt v).toInt32)
  | .ldc k => (Nat.beq op 0 && CKs.contains (mO M, k, x)) || (Nat.beq op 67 && decide (SKs[a]? = some (mO M, k)))
  | .ldc_w k => (Nat.beq op 0 && CKs.contains (mO M, k, x)) || (Nat.beq op 67 && decide (SKs[a]? = some (mO M, k)))
  | .lconst v => Nat.beq op 1 && decide (x = (v.val : Int))
  | .ldc2_w k => Nat.beq op 1 && CJs.contains (mO M, k, x)
  | .iload k => Nat.beq op 2 && Nat.beq a k
  | .iload_n k => Nat.beq op 2 && Nat.beq a k.val
  | .aload k => Nat.beq op 3 && Nat.beq a k
  | .aload_n k => Nat.beq op 3 && Nat.beq a k.val
  | .lload k => Nat.beq op 4 && Nat.beq a k
  | .lload_n k => Nat.beq op 4 && Nat.beq a k.val
  | .istore k => Nat.beq op 5 && Nat.beq a k && Nat.blt a (mxL M) && (mJ M == Nat.beq b 1) && Nat.ble b 1
  | .istore_n k => Nat.beq op 5 && Nat.beq a k.val && Nat.blt a (mxL M) && (mJ M == Nat.beq b 1) && Nat.ble b 1
  | .astore k => Nat.beq op 6 && Nat.beq a k && Nat.blt a (mxL M) && (mJ M == Nat.beq b 1) && Nat.ble b 1
  | .astore_n k => Nat.beq op 6 && Nat.beq a k.val && Nat.blt a (mxL M) && (mJ M == Nat.beq b 1) && Nat.ble b 1
  | .lstore k => Nat.beq op 7 && Nat.beq a k && Nat.blt (a + 1) (mxL M) && mJ M
  | .lstore_n k => Nat.beq op 7 && Nat.beq a k.val && Nat.blt (a + 1) (mxL M) && mJ M
  | .iinc k z => Nat.beq op 8 && Nat.beq a k && decide (x = z) && Nat.blt a (mxL M) && (mJ M == Nat.beq b 1) && Nat.ble b 1
  | .iadd => Nat.beq op 9 && Nat.beq b 0
  | .isub => Nat.beq op 9 && Nat.beq b 1
  | .imul => Nat.beq op 9 && Nat.beq b 2
  | .ishl => Nat.beq op 9 && Nat.beq b 3
  | .ishr => Nat.beq op 9 && Nat.beq b 4
  | .iushr => Nat.beq op 9 && Nat.beq b 5
  | .iand => Nat.beq op 9 && Nat.beq b 6
  | .ior => Nat.beq op 9 && Nat.beq b 7
  | .ixor => Nat.beq op 9 && Nat.beq b 8
  | .idiv => Nat.beq op 10
  | .irem => Nat.beq op 11
  | .lmul => Nat.beq op 12
  | .ldiv => Nat.beq op 13
  | .lrem => Nat.beq op 14
  | .i2l => Nat.beq op 15
  | .l2i => Nat.beq op 16
  | .lcmp => Nat.beq op 17
  | .dup => Nat.beq op 18
  | .dup2 => Nat.beq op 19
  | .pop => Nat.beq op 20
  | .aconst_null => Nat.beq op 21
  | .goto z => Nat.beq op 22 && tgt pc z a
  | .if_icmp c z => Nat.beq op (23 + cdN c) && tgt pc z a
  | .ifCond c z => Nat.beq op (29 + cdN c) && tgt pc z a
  | .ifnull z => Nat.beq op 35 && tgt pc z a
  | .ifnonnull z => Nat.beq op 36 && tgt pc z a
  | .tableswitch d lo hi offs => Nat.beq op 37 && decide (pSw[a]? = some (swT offs.toList pc lo, ((pc : Int) + d).toNat)) && decide (hi = lo + (offs.size : Int) - 1) && decide (0 ≤ (pc : Int) + d) && offs.toList.all (fun z => decide (0 ≤ (pc : Int) + z)) && decide (-1000000 < lo) && decide (hi < 1000000)
  | .lookupswitch d ps => Nat.beq op 37 && decide (pSw[a]? = some (ps.toList.map (fun q => (Int32.ofInt q.1, ((pc : Int) + q.2).toNat)), ((pc : Int) + d).toNat)) && decide (0 ≤ (pc : Int) + d) && ps.toList.all (fun q => decide (0 ≤ (pc : Int) + q.2) && decide (-1000000 < q.1) && decide (q.1 < 1000000)) && (ps.toList.zip (ps.toList.drop 1)).all (fun (a, next) => decide (a.1 < next.1))
  | .getfield k => Nat.blt b (fN_ a) && Nat.blt a 12 && ((lkT FLt (mO M) k == some (a, b)) || (Nat.beq (mO M) 4 && Nat.beq k 18 && Nat.beq a 5 && Nat.beq b 0)) && (Nat.beq op 38 || Nat.beq op 39 || Nat.beq op 40)
  | .putfield k => Nat.blt b (fN_ a) && Nat.blt a 12 && (lkT FLt (mO M) k == some (a, b)) && ((Nat.beq op 41 && decide (fTy a b = some .int)) || (Nat.beq op 42 && (match fTy a b with | some t => isRf t | none => false))) && (!fFin a b || (Nat.beq (mK M) 2 && decide (fDc a b = oS (mO M))))
  | .iaload => Nat.beq op 43
  | .iastore => Nat.beq op 44
  | .laload => Nat.beq op 45
  | .lastore => Nat.beq op 46
  | .aaload => Nat.beq op 47
  | .aastore => Nat.beq op 48
  | .arraylength => Nat.beq op 49
  | .newarray .int => Nat.beq op 50
  | .newarray .long => Nat.beq op 51
  | .anewarray k => Nat.beq op 52 && CLs.contains (mO M, k, 2)
  | .new k => (Nat.beq op 53 && Nat.blt a 12 && Nat.beq b (fN_ a) && CLs.contains (mO M, k, a)) || (Nat.beq op 54 && Nat.blt a 2 && CLs.contains (mO M, k, 100 + a) && decide (decode (mB M) (pc + 3) = .ok (.dup, 1)) && decide (decode (mB M) (pc + 4) = .ok (.invokespecial (348 + 3 * a), 3)) && decide (decode (mB M) (pc + 7) = .ok (.athrow, 1)) && Nat.beq (mO M) 10 && Nat.beq (mK M) 0)
  | .invokevirtual k => (Nat.beq op 55 && okC M 0 x a b k) || (Nat.beq op 60 && (lkT MLt (mO M) k == some (9003, 0))) || (Nat.beq op 61 && (lkT MLt (mO M) k == some (9004, 0)))
  | .invokestatic k => (Nat.beq op 56 && okC M 1 x a b k) || (Nat.beq op 59 && (lkT MLt (mO M) k == some (9002, 0))) || (Nat.beq op 68 && (lkT MLt (mO M) k == some (9005, 0))) || (Nat.beq op 69 && (lkT MLt (mO M) k == some (9006, 0))) || (Nat.beq op 70 && (lkT MLt (mO M) k == some (9007, 0)))
  | .invokespecial k => (Nat.beq op 57 && okC M 2 x a b k) || (Nat.beq op 58 && (lkT MLt (mO M) k == some (9001, 0))) || Nat.beq op 99
  | .ireturn => (Nat.beq op 62 && decide (mT M = some .int)) || (Nat.beq op 66 && decide (mT M = some .boolean))
  | .lreturn => Nat.beq op 63 && decide (mT M = some .long)
  | .areturn => Nat.beq op 64 && (match mT M with | some t => isRf t | none => false)
  | .return_ => Nat.beq op 65 && decide (mT M = none)
  | .athrow => Nat.beq op 99
  | _ => false
def ilen (i : Instr) (n : Nat) : Bool := match i with
  | .bipush _ => Nat.beq n 2
  | .sipush _ => Nat.beq n 3
  | .ldc _ => Nat.beq n 2
  | .ldc_w _ => Nat.beq n 3
  | .ldc2_w _ => Nat.beq n 3
  | .iload _ => Nat.beq n 2
  | .aload _ => Nat.beq n 2
  | .lload _ => Nat.beq n 2
  | .istore _ => Nat.beq n 2
  | .astore _ => Nat.beq n 2
  | .lstore _ => Nat.beq n 2
  | .iinc _ _ => Nat.beq n 3
  | .goto _ => Nat.beq n 3
  | .if_icmp _ _ => Nat.beq n 3
  | .ifCond _ _ => Nat.beq n 3
  | .ifnull _ => Nat.beq n 3
  | .ifnonnull _ => Nat.beq n 3
  | .getfield _ => Nat.beq n 3
  | .putfield _ => Nat.beq n 3
  | .newarray _ => Nat.beq n 2
  | .anewarray _ => Nat.beq n 3
  | .new _ => Nat.beq n 3
  | .invokevirtual _ => Nat.beq n 3
  | .invokestatic _ => Nat.beq n 3
  | .invokespecial _ => Nat.beq n 3
  | .tableswitch _ _ _ _ => true
  | .lookupswitch _ _ => true
  | _ => Nat.beq n 1
def okE (M pc : Nat) (e : pE) : Bool := match e with
  | (len, op, x, a, b) => match decode (mB M) pc with
    | .ok (i, n) => Nat.beq n len && ilen i n && okI M pc op x a b i
    | _ => false
def mTab (M : Nat) : List (List (Nat × pE)) := (pMs.getD (M / 16) []).getD (M % 16) []
def okM (M : Nat) : Bool := (mTab M).all fun r => r.all fun q => okE M q.1 q.2
end
section
/-! ONE STEP of the pure machine, with what goes on behind it (K) and what a call comes to (C). -/
def pX (K : Nat → List Value → List Value → pS → pR) (M pc : Nat) (ls : List Value) (c i : Nat) (s : pS) : pR := hX (hnd M) pc c (fun h => K h ls [.ref i] s) (match hnd M with | [] => some (.inr (c, i), s) | _ => none)
/-- the arguments fit the callee's locals -/
def argOk (M : Nat) (as : List Value) : Bool := Nat.ble (entL as).length (mxL M) && (mJ M || as.all fun v => !isJ v)
/-- the receiver is of the callee's kind -/
def rcv (M : Nat) (as : List Value) (s : pS) : Bool := match as with
  | .ref q :: _ => isO s q (mO M)
  | _ => false
/-- where nothing is thrown -/
def nX (_ _ : Nat) (_ : pS) : pR := none
def pCall (C : Nat → List Value → pS → pR) (K : Nat → List Value → List Value → pS → pR) (X : Nat → Nat → pS → pR) (M pc len : Nat) (t : Int) (a b : Nat) (ls st : List Value) (s : pS) : pR :=
  bif Nat.ble b st.length && (stW (st.drop b) && argOk a (st.take b).reverse) then (match t.toNat with
    | 0 => kC0 (C a (st.take b).reverse s) (fun s' => K (pc + len) ls (st.drop b) s') X
    | 1 => kC1 (C a (st.take b).reverse s) (fun x s' => K (pc + len) ls (.int x :: st.drop b) s') X
    | 2 => kC2 (C a (st.take b).reverse s) (fun x s' => K (pc + len) ls (.long x :: st.drop b) s') X
    | _ => kC3 (C a (st.take b).reverse s) (fun x s' => K (pc + len) ls (.ref x :: st.drop b) s') X) else none
def pStep (C : Nat → List Value → pS → pR) (K : Nat → List Value → List Value → pS → pR) (M pc : Nat) (e : pE) (ls st : List Value) (s : pS) : pR := match e with
  | (len, op, x, a, b) => match op with
    | 0 => K (pc + len) ls (.int (Int32.ofInt x) :: st) s
    | 1 => K (pc + len) ls (.long (Int64.ofInt x) :: st) s
    | 2 => tI ls[a]? fun v => K (pc + len) ls (.int v :: st) s
    | 3 => tA ls[a]? fun v => K (pc + len) ls (va_rf v :: st) s
    | 4 => tJ ls[a]? fun v => K (pc + len) ls (.long v :: st) s
    | 5 => kI st fun v r => K (pc + len) (pSt b ls a (.int v)) r s
    | 6 => kAn st fun v r => K (pc + len) (pSt b ls a (va_rf v)) r s
    | 7 => kJ st fun v r => K (pc + len) (pSt2 ls a (.long v)) r s
    | 8 => tI ls[a]? fun v => K (pc + len) (pSt b ls a (.int (v + Int32.ofInt x))) st s
    | 9 => kII st fun v w r => K (pc + len) ls (.int (ibin b v w) :: r) s
    | 10 => kII st fun v w r => if w = 0 then none else K (pc + len) ls (.int (v / w) :: r) s
    | 11 => kII st fun v w r => if w = 0 then none else K (pc + len) ls (.int (v - v / w * w) :: r) s
    | 12 => kJJ st fun v w r => K (pc + len) ls (.long (v * w) :: r) s
    | 13 => kJJ st fun v w r => if w = 0 then none else K (pc + len) ls (.long (v / w) :: r) s
    | 14 => kJJ st fun v w r => if w = 0 then none else K (pc + len) ls (.long (v - v / w * w) :: r) s
    | 15 => kI st fun v r => K (pc + len) ls (.long v.toInt64 :: r) s
    | 16 => kJ st fun v r => K (pc + len) ls (.int v.toInt32 :: r) s
    | 17 => kJJ st fun v w r => K (pc + len) ls (.int (lg_cmp v w) :: r) s
    | 18 => kV1 st fun v r => K (pc + len) ls (v :: v :: r) s
    | 19 => kIA st fun q i r => K (pc + len) ls (.int i :: .ref q :: .int i :: .ref q :: r) s
    | 20 => kV1 st fun _ r => K (pc + len) ls r s
    | 21 => K (pc + len) ls (.null :: st) s
    | 22 => K a ls st s
    | 23 => kII st fun v w r => if v = w then K a ls r s else K (pc + len) ls r s
    | 24 => kII st fun v w r => if ¬ v = w then K a ls r s else K (pc + len) ls r s
    | 25 => kII st fun v w r => if v < w then K a ls r s else K (pc + len) ls r s
    | 26 => kII st fun v w r => if w ≤ v then K a ls r s else K (pc + len) ls r s
    | 27 => kII st fun v w r => if w < v then K a ls r s else K (pc + len) ls r s
    | 28 => kII st fun v w r => if v ≤ w then K a ls r s else K (pc + len) ls r s
    | 29 => kI st fun v r => if v = 0 then K a ls r s else K (pc + len) ls r s
    | 30 => kI st fun v r => if ¬ v = 0 then K a ls r s else K (pc + len) ls r s
    | 31 => kI st fun v r => if v < 0 then K a ls r s else K (pc + len) ls r s
    | 32 => kI st fun v r => if 0 ≤ v then K a ls r s else K (pc + len) ls r s
    | 33 => kI st fun v r => if 0 < v then K a ls r s else K (pc + len) ls r s
    | 34 => kI st fun v r => if v ≤ 0 then K a ls r s else K (pc + len) ls r s
    | 35 => kAn st fun v r => (match v with | none => K a ls r s | some _ => K (pc + len) ls r s)
    | 36 => kAn st fun v r => (match v with | none => K (pc + len) ls r s | some _ => K a ls r s)
    | 37 => kI st fun v r => (match pSw[a]? with | some w => kSw w.1 w.2 v (fun t => K t ls r s) | none => none)
    | 38 => kA st fun q r => (gFi s q a b).bind fun v => K (pc + len) ls (.int v :: r) s
    | 39 => kA st fun q r => (gFr s q a b).bind fun v => K (pc + len) ls (.ref v :: r) s
    | 40 => kA st fun q r => (gFv s q a b).bind fun v => oN v (K (pc + len) ls (.null :: r) s) (fun w => K (pc + len) ls (.ref w :: r) s)
    | 41 => kI st fun v r => kA r fun q r => (pF s q a b (.int v)).bind fun s' => K (pc + len) ls r s'
    | 42 => kAn st fun v r => kA r fun q r => (pF s q a b (va_rf v)).bind fun s' => K (pc + len) ls r s'
    | 43 => kIA st fun q i r => (gI s q i).bind fun v => K (pc + len) ls (.int v :: r) s
    | 44 => kIIA st fun q i v r => (pI s q i v).bind fun s' => K (pc + len) ls r s'
    | 45 => kIA st fun q i r => (gL s q i).bind fun v => K (pc + len) ls (.long v :: r) s
    | 46 => kJIA st fun q i v r => (pL s q i v).bind fun s' => K (pc + len) ls r s'
    | 47 => kIA st fun q i r => (gQ s q i).bind fun v => oN v (K (pc + len) ls (.null :: r) s) (fun w => K (pc + len) ls (.ref w :: r) s)
    | 48 => kAIA st fun q i v r => (pQ s q i v).bind fun s' => K (pc + len) ls r s'
    | 49 => kA st fun q r => (gN s q).bind fun v => K (pc + len) ls (.int v :: r) s
    | 50 => kI st fun v r => if v < 0 ∨ 100000 < v.toNatClampNeg then none else K (pc + len) ls (.ref s.1 :: r) (pNew s (cI v.toNatClampNeg (fun _ => 0)) v.toNatClampNeg)
    | 51 => kI st fun v r => if v < 0 ∨ 100000 < v.toNatClampNeg then none else K (pc + len) ls (.ref s.1 :: r) (pNew s (cL v.toNatClampNeg (fun _ => 0)) v.toNatClampNeg)
    | 52 => kI st fun v r => if v < 0 ∨ 100000 < v.toNatClampNeg then none else K (pc + len) ls (.ref s.1 :: r) (pNew s (cQ v.toNatClampNeg (fun _ => none)) v.toNatClampNeg)
    | 53 => K (pc + len) ls (.ref s.1 :: st) (pNew s (cO a (pD0.getD a [])) b)
    | 54 => bif stW st then some (.inr (a, s.1), pEx s) else none
    | 55 => pCall (fun M' as s' => bif rcv M' as s' then C M' as s' else none) K (pX K M pc ls) M pc len x a b ls st s
    | 56 => pCall C K nX M pc len x a b ls st s
    | 57 => pCall (fun M' as s' => bif rcv M' as s' then C M' as s' else none) K nX M pc len x a b ls st s
    | 58 => kA st fun _ r => bif stW r then K (pc + len) ls r s else none
    | 59 => kII st fun dp n r => kA r fun q1 r => kIA r fun q0 sp r => bif stW r then (pCp s q0 sp q1 dp n).bind fun s' => K (pc + len) ls r s' else none
    | 60 => kA st fun q r => bif stW r then (sLen pStr q).bind fun v => K (pc + len) ls (.int v :: r) s else none
    | 61 => kIA st fun q i r => bif stW r then (sAt pStr q i).bind fun v => K (pc + len) ls (.int v :: r) s else none
    | 62 => kI st fun v r => (match r with | [] => some (.inl (some (.int v)), s) | _ => none)
    | 63 => kJ st fun v r => (match r with | [] => some (.inl (some (.long v)), s) | _ => none)
    | 64 => kA st fun v r => (match r with | [] => some (.inl (some (.ref v)), s) | _ => none)
    | 65 => (match st with | [] => some (.inl none, s) | _ => none)
    | 66 => kI st fun v r => (match r with | [] => if v &&& 1 = v then some (.inl (some (.int v)), s) else none | _ => none)
    | 67 => K (pc + len) ls (.ref (pSB + a) :: st) s
    | 68 => kII st fun v w r => bif stW r then K (pc + len) ls (.int (if v < w then w else v) :: r) s else none
    | 69 => kII st fun v w r => bif stW r then K (pc + len) ls (.int (if w < v then w else v) :: r) s else none
    | 70 => kJJ st fun v w r => bif stW r then K (pc + len) ls (.long (if w < v then w else v) :: r) s else none
    | _ => none
def cD (F : Nat → Nat → List Value → pS → pR) : Nat → Nat → List Value → pS → pR
  | 0, _, _, _ => none
  | d + 1, M, as, s => F d M as s
def run : Nat → Nat → Nat → Nat → List Value → List Value → pS → pR
  | 0, _, _, _, _, _, _ => none
  | f + 1, d, M, pc, ls, st, s => match pTb M pc with
    | none => none
    | some e => pStep (fun M' as s' => cD (fun d' M' as s' => run f d' M' 0 (ent M' as) [] s') d M' as s') (fun pc' ls' st' s' => run f d M pc' ls' st' s') M pc e ls st s
/-- a value that a growing row of values comes to -/
def pc_ (p : pR) (q : Nat → pR) : Prop := ∀ r, p = some r → ∃ f, ∀ g, f ≤ g → q g = some r
theorem pc_k (p : pR) : pc_ p (fun _ => p) := fun _ h => ⟨0, fun _ _ => h⟩
theorem pc_n {q : Nat → pR} : pc_ none q := fun _ h => by cases h
theorem pc_if {c : Prop} [Decidable c] {a b : pR} {qa qb : Nat → pR} (ha : pc_ a qa) (hb : pc_ b qb) : pc_ (if c then a else b) (fun f => if c then qa f else qb f) := by
  by_cases h : c
  · simpa [h] using ha
  · simpa [h] using hb
theorem pc_b {c : Bool} {a b : pR} {qa qb : Nat → pR} (ha : pc_ a qa) (hb : pc_ b qb) : pc_ (bif c then a else b) (fun f => bif c then qa f else qb f) := by
  cases c
  · exact hb
  · exact ha
theorem pc_o {α : Type} (o : Option α) {K : α → pR} {Kf : Nat → α → pR} (h : ∀ x, pc_ (K x) (fun f => Kf f x)) : pc_ (o.bind K) (fun f => o.bind (Kf f)) := by
  cases o with
  | none => exact pc_n
  | some x => exact h x
section
variable {C : Nat → List Value → pS → pR} {K : Nat → List Value → List Value → pS → pR} {Cf : Nat → Nat → List Value → pS → pR} {Kf : Nat → Nat → List Value → List Value → pS → pR}
theorem pc_tI (o : Option Value) {F : Int32 → pR} {G : Nat → Int32 → pR} (h : ∀ x, pc_ (F x) (fun f => G f x)) : pc_ (tI o F) (fun f => tI o (G f)) := by
  unfold tI; split
  · exact h _
  · exact pc_n
theorem pc_tJ (o : Option Value) {F : Int64 → pR} {G : Nat → Int64 → pR} (h : ∀ x, pc_ (F x) (fun f => G f x)) : pc_ (tJ o F) (fun f => tJ o (G f)) := by
  unfold tJ; split
  · exact h _
  · exact pc_n
theorem pc_tA (o : Option Value) {F : Option Nat → pR} {G : Nat → Option Nat → pR} (h : ∀ x, pc_ (F x) (fun f => G f x)) : pc_ (tA o F) (fun f => tA o (G f)) := by
  unfold tA; split
  · exact h _
  · exact h _
  · exact pc_n
theorem pc_kI (st : List Value) {F : Int32 → List Value → pR} {G : Nat → Int32 → List Value → pR} (h : ∀ x r, pc_ (F x r) (fun f => G f x r)) : pc_ (kI st F) (fun f => kI st (G f)) := by
  unfold kI; split
  · exact h _ _
  · exact pc_n
theorem pc_kII (st : List Value) {F : Int32 → Int32 → List Value → pR} {G : Nat → Int32 → Int32 → List Value → pR} (h : ∀ x y r, pc_ (F x y r) (fun f => G f x y r)) : pc_ (kII st F) (fun f => kII st (G f)) := by
  unfold kII; split
  · exact h _ _ _
  · exact pc_n
theorem pc_kJ (st : List Value) {F : Int64 → List Value → pR} {G : Nat → Int64 → List Value → pR} (h : ∀ x r, pc_ (F x r) (fun f => G f x r)) : pc_ (kJ st F) (fun f => kJ st (G f)) := by
  unfold kJ; split
  · exact h _ _
  · exact pc_n
theorem pc_kJJ (st : List Value) {F : Int64 → Int64 → List Value → pR} {G : Nat → Int64 → Int64 → List Value → pR} (h : ∀ x y r, pc_ (F x y r) (fun f => G f x y r)) : pc_ (kJJ st F) (fun f => kJJ st (G f)) := by
  unfold kJJ; split
  · exact h _ _ _
  · exact pc_n
theorem pc_kA (st : List Value) {F : Nat → List Value → pR} {G : Nat → Nat → List Value → pR} (h : ∀ x r, pc_ (F x r) (fun f => G f x r)) : pc_ (kA st F) (fun f => kA st (G f)) := by
  unfold kA; split
  · exact h _ _
  · exact pc_n
theorem pc_kAn (st : List Value) {F : Option Nat → List Value → pR} {G : Nat → Option Nat → List Value → pR} (h : ∀ x r, pc_ (F x r) (fun f => G f x r)) : pc_ (kAn st F) (fun f => kAn st (G f)) := by
  unfold kAn; split
  · exact h _ _
  · exact h _ _
  · exact pc_n
theorem pc_kIA (st : List Value) {F : Nat → Int32 → List Value → pR} {G : Nat → Nat → Int32 → List Value → pR} (h : ∀ x y r, pc_ (F x y r) (fun f => G f x y r)) : pc_ (kIA st F) (fun f => kIA st (G f)) := by
  unfold kIA; split
  · exact h _ _ _
  · exact pc_n
theorem pc_kIIA (st : List Value) {F : Nat → Int32 → Int32 → List Value → pR} {G : Nat → Nat → Int32 → Int32 → List Value → pR} (h : ∀ x y z r, pc_ (F x y z r) (fun f => G f x y z r)) : pc_ (kIIA st F) (fun f => kIIA st (G f)) := by
  unfold kIIA; split
  · exact h _ _ _ _
  · exact pc_n
theorem pc_kJIA (st : List Value) {F : Nat → Int32 → Int64 → List Value → pR} {G : Nat → Nat → Int32 → Int64 → List Value → pR} (h : ∀ x y z r, pc_ (F x y z r) (fun f => G f x y z r)) : pc_ (kJIA st F) (fun f => kJIA st (G f)) := by
  unfold kJIA; split
  · exact h _ _ _ _
  · exact pc_n
theorem pc_kAIA (st : List Value) {F : Nat → Int32 → Option Nat → List Value → pR} {G : Nat → Nat → Int32 → Option Nat → List Value → pR} (h : ∀ x y z r, pc_ (F x y z r) (fun f => G f x y z r)) : pc_ (kAIA st F) (fun f => kAIA st (G f)) := by
  unfold kAIA; split
  · exact h _ _ _ _
  · exact h _ _ _ _
  · exact pc_n
theorem pc_kV1 (st : List Value) {F : Value → List Value → pR} {G : Nat → Value → List Value → pR} (h : ∀ x r, pc_ (F x r) (fun f => G f x r)) : pc_ (kV1 st F) (fun f => kV1 st (G f)) := by
  unfold kV1; split
  · exact h _ _
  · exact h _ _
  · exact pc_n
theorem pc_kSw (l : List (Int32 × Nat)) (d : Nat) (x : Int32) {F : Nat → pR} {G : Nat → Nat → pR} (h : ∀ x, pc_ (F x) (fun f => G f x)) : pc_ (kSw l d x F) (fun f => kSw l d x (G f)) := by
  induction l with
  | nil => exact h _
  | cons a l ih => obtain ⟨c, t⟩ := a; exact pc_if (h _) ih
theorem pc_kC0 {r : pR} {rf : Nat → pR} {F : pS → pR} {G : Nat → pS → pR} {X : Nat → Nat → pS → pR} {Y : Nat → Nat → Nat → pS → pR} (hr : pc_ r rf) (h : ∀ s, pc_ (F s) (fun f => G f s)) (hx : ∀ c i s, pc_ (X c i s) (fun f => Y f c i s)) : pc_ (kC0 r F X) (fun f => kC0 (rf f) (G f) (Y f)) := by
  cases r with
  | none => exact pc_n
  | some z =>
    obtain ⟨f1, h1⟩ := hr z rfl
    have : pc_ (kC0 (some z) F X) (fun f => kC0 (some z) (G f) (Y f)) := by
      unfold kC0
      split
      · next e => cases e; exact h _
      · next e => cases e; exact hx _ _ _
      · exact pc_n
    intro y hy
    obtain ⟨f2, h2⟩ := this y hy
    refine ⟨max f1 f2, fun g hg => ?_⟩
    show kC0 (rf g) (G g) (Y g) = some y
    rw [h1 g (by omega)]
    exact h2 g (by omega)
theorem pc_kC1 {r : pR} {rf : Nat → pR} {F : Int32 → pS → pR} {G : Nat → Int32 → pS → pR} {X : Nat → Nat → pS → pR} {Y : Nat → Nat → Nat → pS → pR} (hr : pc_ r rf) (h : ∀ x s, pc_ (F x s) (fun f => G f x s)) (hx : ∀ c i s, pc_ (X c i s) (fun f => Y f c i s)) : pc_ (kC1 r F X) (fun f => kC1 (rf f) (G f) (Y f)) := by
  cases r with
  | none => exact pc_n
  | some z =>
    obtain ⟨f1, h1⟩ := hr z rfl
    have : pc_ (kC1 (some z) F X) (fun f => kC1 (some z) (G f) (Y f)) := by
      unfold kC1
      split
      · next e => cases e; exact h _ _
      · next e => cases e; exact hx _ _ _
      · exact pc_n
    intro y hy
    obtain ⟨f2, h2⟩ := this y hy
    refine ⟨max f1 f2, fun g hg => ?_⟩
    show kC1 (rf g) (G g) (Y g) = some y
    rw [h1 g (by omega)]
    exact h2 g (by omega)
theorem pc_kC2 {r : pR} {rf : Nat → pR} {F : Int64 → pS → pR} {G : Nat → Int64 → pS → pR} {X : Nat → Nat → pS → pR} {Y : Nat → Nat → Nat → pS → pR} (hr : pc_ r rf) (h : ∀ x s, pc_ (F x s) (fun f => G f x s)) (hx : ∀ c i s, pc_ (X c i s) (fun f => Y f c i s)) : pc_ (kC2 r F X) (fun f => kC2 (rf f) (G f) (Y f)) := by
  cases r with
  | none => exact pc_n
  | some z =>
    obtain ⟨f1, h1⟩ := hr z rfl
    have : pc_ (kC2 (some z) F X) (fun f => kC2 (some z) (G f) (Y f)) := by
      unfold kC2
      split
      · next e => cases e; exact h _ _
      · next e => cases e; exact hx _ _ _
      · exact pc_n
    intro y hy
    obtain ⟨f2, h2⟩ := this y hy
    refine ⟨max f1 f2, fun g hg => ?_⟩
    show kC2 (rf g) (G g) (Y g) = some y
    rw [h1 g (by omega)]
    exact h2 g (by omega)
theorem pc_kC3 {r : pR} {rf : Nat → pR} {F : Nat → pS → pR} {G : Nat → Nat → pS → pR} {X : Nat → Nat → pS → pR} {Y : Nat → Nat → Nat → pS → pR} (hr : pc_ r rf) (h : ∀ x s, pc_ (F x s) (fun f => G f x s)) (hx : ∀ c i s, pc_ (X c i s) (fun f => Y f c i s)) : pc_ (kC3 r F X) (fun f => kC3 (rf f) (G f) (Y f)) := by
  cases r with
  | none => exact pc_n
  | some z =>
    obtain ⟨f1, h1⟩ := hr z rfl
    have : pc_ (kC3 (some z) F X) (fun f => kC3 (some z) (G f) (Y f)) := by
      unfold kC3
      split
      · next e => cases e; exact h _ _
      · next e => cases e; exact hx _ _ _
      · exact pc_n
    intro y hy
    obtain ⟨f2, h2⟩ := this y hy
    refine ⟨max f1 f2, fun g hg => ?_⟩
    show kC3 (rf g) (G g) (Y g) = some y
    rw [h1 g (by omega)]
    exact h2 g (by omega)
theorem pc_oN (v : Option Nat) {a : pR} {af : Nat → pR} {F : Nat → pR} {G : Nat → Nat → pR} (ha : pc_ a af) (h : ∀ x, pc_ (F x) (fun f => G f x)) : pc_ (oN v a F) (fun f => oN v (af f) (G f)) := by
  cases v with
  | none => exact ha
  | some w => exact h w
theorem pc_hX (l : List (Nat × Nat × Nat × Nat)) (pc c : Nat) {D : pR} {Df : Nat → pR} {F : Nat → pR} {G : Nat → Nat → pR} (hD : pc_ D Df) (h : ∀ x, pc_ (F x) (fun f => G f x)) : pc_ (hX l pc c F D) (fun f => hX l pc c (G f) (Df f)) := by
  induction l with
  | nil => exact hD
  | cons a l ih =>
    obtain ⟨a, b, x, k⟩ := a
    exact pc_b (pc_if (h _) ih) ih
theorem pc_X (M pc : Nat) (ls : List Value) (hK : ∀ pc ls st s, pc_ (K pc ls st s) (fun f => Kf f pc ls st s)) (c i : Nat) (s : pS) : pc_ (pX K M pc ls c i s) (fun f => pX (Kf f) M pc ls c i s) :=
  pc_hX _ _ _ (by split; exact pc_k _; exact pc_n) (fun _ => hK _ _ _ _)
theorem pc_call {X : Nat → Nat → pS → pR} {Xf : Nat → Nat → Nat → pS → pR} (M pc len : Nat) (t : Int) (a b : Nat) (ls st : List Value) (s : pS) (hC : ∀ M a s, pc_ (C M a s) (fun f => Cf f M a s)) (hK : ∀ pc ls st s, pc_ (K pc ls st s) (fun f => Kf f pc ls st s)) (hX : ∀ c i s, pc_ (X c i s) (fun f => Xf f c i s)) : pc_ (pCall C K X M pc len t a b ls st s) (fun f => pCall (Cf f) (Kf f) (Xf f) M pc len t a b ls st s) := by
  unfold pCall
  refine pc_b ?_ pc_n
  split
  · exact pc_kC0 (hC _ _ _) (fun _ => hK _ _ _ _) (fun _ _ _ => hX _ _ _)
  · exact pc_kC1 (hC _ _ _) (fun _ _ => hK _ _ _ _) (fun _ _ _ => hX _ _ _)
  · exact pc_kC2 (hC _ _ _) (fun _ _ => hK _ _ _ _) (fun _ _ _ => hX _ _ _)
  · exact pc_kC3 (hC _ _ _) (fun _ _ => hK _ _ _ _) (fun _ _ _ => hX _ _ _)
set_option maxRecDepth 10000 in
set_option maxHeartbeats 4000000 in
theorem pStep_c (M pc : Nat) (e : pE) (ls st : List Value) (s : pS) (hC : ∀ M a s, pc_ (C M a s) (fun f => Cf f M a s)) (hK : ∀ pc ls st s, pc_ (K pc ls st s) (fun f => Kf f pc ls st s)) : pc_ (pStep C K M pc e ls st s) (fun f => pStep (Cf f) (Kf f) M pc e ls st s) := by
  obtain ⟨len, op, x, a, b⟩ := e
  unfold pStep
  dsimp only
  split
  all_goals
    repeat' first
      | exact pc_n
      | exact pc_k _
      | exact hK _ _ _ _
      | exact pc_call M pc _ _ _ _ _ _ _ hC hK (fun _ _ _ => pc_n)
      | exact pc_call M pc _ _ _ _ _ _ _ (fun _ _ _ => pc_b (hC _ _ _) pc_n) hK (fun _ _ _ => pc_n)
      | exact pc_call M pc _ _ _ _ _ _ _ (fun _ _ _ => pc_b (hC _ _ _) pc_n) hK (fun _ _ _ => pc_X M pc _ hK _ _ _)
      | (refine pc_tI _ (fun _ => ?_))
      | (refine pc_tJ _ (fun _ => ?_))
      | (refine pc_tA _ (fun _ => ?_))
      | (refine pc_kI _ (fun _ _ => ?_))
      | (refine pc_kII _ (fun _ _ _ => ?_))
      | (refine pc_kJ _ (fun _ _ => ?_))
      | (refine pc_kJJ _ (fun _ _ _ => ?_))
      | (refine pc_kA _ (fun _ _ => ?_))
      | (refine pc_kAn _ (fun _ _ => ?_))
      | (refine pc_kIA _ (fun _ _ _ => ?_))
      | (refine pc_kIIA _ (fun _ _ _ _ => ?_))
      | (refine pc_kJIA _ (fun _ _ _ _ => ?_))
      | (refine pc_kAIA _ (fun _ _ _ _ => ?_))
      | (refine pc_kV1 _ (fun _ _ => ?_))
      | (refine pc_kSw _ _ _ (fun _ => ?_))
      | (refine pc_oN _ ?_ (fun _ => ?_))
      | (refine pc_o _ (fun _ => ?_))
      | (refine pc_if ?_ ?_)
      | (refine pc_b ?_ ?_)
      | split
end
/-- more fuel comes to the same -/
theorem run_up : ∀ (f : Nat) (d M pc : Nat) (ls st : List Value) (s : pS) (r : pO × pS), run f d M pc ls st s = some r → ∀ g, f ≤ g → run g d M pc ls st s = some r := by
  intro f
  induction f with
  | zero => intro d M pc ls st s r h; cases h
  | succ f ih =>
    intro d M pc ls st s r h g hg
    obtain ⟨g, rfl⟩ : ∃ k, g = k + 1 := ⟨g - 1, by omega⟩
    unfold run at h ⊢
    cases ht : pTb M pc with
    | none => rw [ht] at h; cases h
    | some e =>
      rw [ht] at h
      dsimp only at h ⊢
      obtain ⟨k, hk⟩ := pStep_c (Cf := fun _ M' as s' => cD (fun d' M' as s' => run g d' M' 0 (ent M' as) [] s') d M' as s') (Kf := fun _ pc' ls' st' s' => run g d M pc' ls' st' s') M pc e ls st s (fun M a s => by
          intro r h
          refine ⟨0, fun _ _ => ?_⟩
          cases d with
          | zero => cases h
          | succ d => exact ih _ _ _ _ _ _ _ h g (by omega)) (fun pc ls st s => by
          intro r h
          exact ⟨0, fun _ _ => ih _ _ _ _ _ _ _ h g (by omega)⟩) r h
      exact hk k (Nat.le_refl k)
/-- what a method comes to, from a place on -/
noncomputable def den (d M pc : Nat) (ls st : List Value) (s : pS) : pR := @dite pR (∃ r f, run f d M pc ls st s = some r) (Classical.propDecidable _) (fun h => some h.choose) (fun _ => none)
theorem den_iff (d M pc : Nat) (ls st : List Value) (s : pS) (r : pO × pS) : den d M pc ls st s = some r ↔ ∃ f, run f d M pc ls st s = some r := by
  unfold den
  constructor
  · intro h
    split at h
    · next hh =>
      obtain ⟨f, hf⟩ := hh.choose_spec
      cases h
      exact ⟨f, hf⟩
    · cases h
  · rintro ⟨f, hf⟩
    have hh : ∃ r f, run f d M pc ls st s = some r := ⟨r, f, hf⟩
    rw [dif_pos hh]
    obtain ⟨g, hg⟩ := hh.choose_spec
    have h1 := run_up f _ _ _ _ _ _ _ hf (max f g) (by omega)
    have h2 := run_up g _ _ _ _ _ _ _ hg (max f g) (by omega)
    rw [h1] at h2
    exact h2.symm
noncomputable def call (d M : Nat) (as : List Value) (s : pS) : pR := match d with
  | 0 => none
  | d' + 1 => den d' M 0 (ent M as) [] s
noncomputable def vcall (d M : Nat) (as : List Value) (s : pS) : pR := bif rcv M as s then call d M as s else none
theorem den_eq (d M pc : Nat) (ls st : List Value) (s : pS) : den d M pc ls st s = match pTb M pc with
    | none => none
    | some e => pStep (fun M' as s' => call d M' as s') (fun pc' ls' st' s' => den d M pc' ls' st' s') M pc e ls st s := by
  have key : ∀ r, den d M pc ls st s = some r ↔ (match pTb M pc with
    | none => none
    | some e => pStep (fun M' as s' => call d M' as s') (fun pc' ls' st' s' => den d M pc' ls' st' s') M pc e ls st s) = some r := by
    intro r
    rw [den_iff]
    constructor
    · rintro ⟨f, hf⟩
      cases f with
      | zero => cases hf
      | succ f =>
        unfold run at hf
        cases ht : pTb M pc with
        | none => rw [ht] at hf; cases hf
        | some e =>
          rw [ht] at hf
          dsimp only at hf ⊢
          obtain ⟨k, hk⟩ := pStep_c (Cf := fun _ M' as s' => call d M' as s') (Kf := fun _ pc' ls' st' s' => den d M pc' ls' st' s') M pc e ls st s (fun M a s => by
              intro r h
              refine ⟨0, fun _ _ => ?_⟩
              cases d with
              | zero => cases h
              | succ d => exact (den_iff _ _ _ _ _ _ _).mpr ⟨f, h⟩) (fun pc ls st s => by
              intro r h
              exact ⟨0, fun _ _ => (den_iff _ _ _ _ _ _ _).mpr ⟨f, h⟩⟩) r hf
          exact hk k (Nat.le_refl k)
    · intro h
      cases ht : pTb M pc with
      | none => rw [ht] at h; cases h
      | some e =>
        rw [ht] at h
        dsimp only at h
        obtain ⟨k, hk⟩ := pStep_c (Cf := fun f M' as s' => cD (fun d' M' as s' => run f d' M' 0 (ent M' as) [] s') d M' as s') (Kf := fun f pc' ls' st' s' => run f d M pc' ls' st' s') M pc e ls st s (fun M a s => by
            intro r h
            cases d with
            | zero => cases h
            | succ d =>
              obtain ⟨f, hf⟩ := (den_iff _ _ _ _ _ _ _).mp h
              exact ⟨f, fun g hg => run_up f _ _ _ _ _ _ _ hf g hg⟩) (fun pc ls st s => by
            intro r h
            obtain ⟨f, hf⟩ := (den_iff _ _ _ _ _ _ _).mp h
            exact ⟨f, fun g hg => run_up f _ _ _ _ _ _ _ hf g hg⟩) r h
        refine ⟨k + 1, ?_⟩
        unfold run
        rw [ht]
        exact hk k (Nat.le_refl k)
  cases h : den d M pc ls st s with
  | some r => exact ((key r).mp h).symm
  | none =>
    cases h2 : (match pTb M pc with
    | none => none
    | some e => pStep (fun M' as s' => call d M' as s') (fun pc' ls' st' s' => den d M pc' ls' st' s') M pc e ls st s) with
    | none => rfl
    | some r => rw [(key r).mpr h2] at h; cases h
/-- n steps at once, up to the places that 'stop' names -/
def itK (stop : Nat → Bool) (C : Nat → List Value → pS → pR) (K : Nat → List Value → List Value → pS → pR) (M : Nat) : Nat → Nat → List Value → List Value → pS → pR
  | 0, pc, ls, st, s => K pc ls st s
  | n + 1, pc, ls, st, s => match pTb M pc with
    | none => none
    | some e => pStep C (fun pc' ls' st' s' => bif stop pc' then K pc' ls' st' s' else itK stop C K M n pc' ls' st' s') M pc e ls st s
theorem den_it (stop : Nat → Bool) (n d M pc : Nat) (ls st : List Value) (s : pS) : den d M pc ls st s = itK stop (fun M' as s' => call d M' as s') (fun pc' ls' st' s' => den d M pc' ls' st' s') M n pc ls st s := by
  induction n generalizing pc ls st s with
  | zero => rfl
  | succ n ih =>
    rw [den_eq]
    unfold itK
    cases pTb M pc with
    | none => rfl
    | some e =>
      dsimp only
      congr 1
      funext pc' ls' st' s'
      cases stop pc' with
      | true => rfl
      | false => exact ih _ _ _ _
end
section
/-! HOW A PURE STATE LIES IN THE MACHINE'S HEAP -/
def rv (as : Nat → Nat) : Value → Value
  | .ref r => .ref (as r)
  | v => v
def okR (n r : Nat) : Prop := r < n ∨ pSB ≤ r
def okV (n : Nat) : Value → Prop
  | .ref r => okR n r
  | .double _ => False
  | _ => True
def rlE (as : Nat → Nat) (n : Nat) (tys : List (ClassId × FieldType)) (c : pC) (e : va_E) : Prop := match c with
  | .inl (k, f) => ∃ cA, (cA, FieldType.int) ∈ tys ∧ e = .inl (cA, k, .inl f)
  | .inr (.inl (k, f)) => ∃ cA, (cA, FieldType.long) ∈ tys ∧ e = .inl (cA, k, .inr (.inl f))
  | .inr (.inr (.inl (k, g))) => (∃ cA, (cA, FieldType.object RX2) ∈ tys ∧ e = .inl (cA, k, .inr (.inr (.inr (.inr fun j => (g j).map as))))) ∧ ∀ j r, g j = some r → okR n r
  | .inr (.inr (.inr (.inl (ci, fs)))) => e = .inr (ci, fs.map (rv as)) ∧ ∀ v ∈ fs, okV n v
  | .inr (.inr (.inr (.inr _))) => False
/-- what the run's surroundings are: where the strings lie, their bytes, the script -/
abbrev pEnv : Type := (Nat → Nat) × (Nat → Nat) × Nat × Nat × (Nat → Int32)
/-- a cell of the world: no script -/
def nsc (o : Option pC) : Prop := ∃ c, o = some c ∧ ¬ ∃ k f, c = cT k f
def HR (as : Nat → Nat) (S : pS) (tys : List (ClassId × FieldType)) (ws : va_W) : Prop :=
  (∀ i c, S.2.2 i = some c → (∃ k f, c = cT k f) ∨ (i < S.1 ∧ ∃ e, (as i, e) ∈ ws ∧ rlE as S.1 tys c e)) ∧
  (∀ i j, nsc (S.2.2 i) → nsc (S.2.2 j) → as i = as j → i = j)
def AsE (E : pEnv) (as : Nat → Nat) (S : pS) : Prop := (∀ i, i < 39 → as (pSB + i) = E.1 i) ∧ as (pSB + 1000) = E.2.2.1 ∧ ∀ i k f, S.2.2 i = some (cT k f) → i = pSB + 1000 ∧ k = E.2.2.2.1 ∧ f = E.2.2.2.2
theorem rv_ext {as as' : Nat → Nat} {n : Nat} (h : ∀ r, okR n r → as' r = as r) {v : Value} (hv : okV n v) : rv as' v = rv as v := by
  cases v <;> first | rfl | exact congrArg Value.ref (h _ hv)
theorem okV_up {n n' : Nat} (h : n ≤ n') {v : Value} (hv : okV n v) : okV n' v := by
  cases v <;> first | trivial | exact hv.elim | (rcases hv with hv | hv; exact Or.inl (Nat.lt_of_lt_of_le hv h); exact Or.inr hv)
theorem okR_up {n n' : Nat} (h : n ≤ n') {r : Nat} (hv : okR n r) : okR n' r := by
  rcases hv with hv | hv
  · exact Or.inl (Nat.lt_of_lt_of_le hv h)
  · exact Or.inr hv
theorem rlE_up {as as' : Nat → Nat} {n n' : Nat} {tys tys' : List (ClassId × FieldType)} (h : ∀ r, okR n r → as' r = as r) (hn : n ≤ n') (ht : ∀ x ∈ tys, x ∈ tys') {c : pC} {e : va_E} (hc : rlE as n tys c e) : rlE as' n' tys' c e := by
  rcases c with ⟨k, f⟩ | ⟨k, f⟩ | ⟨k, g⟩ | ⟨ci, fs⟩ | _
  · obtain ⟨cA, h1, h2⟩ := hc
    exact ⟨cA, ht _ h1, h2⟩
  · obtain ⟨cA, h1, h2⟩ := hc
    exact ⟨cA, ht _ h1, h2⟩
  · obtain ⟨⟨cA, h1, h2⟩, h3⟩ := hc
    refine ⟨⟨cA, ht _ h1, ?_⟩, fun j r hj => okR_up hn (h3 j r hj)⟩
    have e1 : (fun j => (g j).map as) = fun j => (g j).map as' := by
      funext j
      cases hj : g j with
      | none => rfl
      | some r => exact congrArg some (h r (h3 j r hj)).symm
    rw [h2, e1]
  · obtain ⟨h1, h2⟩ := hc
    refine ⟨?_, fun v hv => okV_up hn (h2 v hv)⟩
    rw [h1]
    congr 2
    exact List.map_congr_left fun v hv => (rv_ext h (h2 v hv)).symm
  · exact hc.elim
theorem mem_ix {α : Type} {l : List α} {x : α} (h : x ∈ l) : ∃ k : Nat, l[k]? = some x := by
  obtain ⟨k, hk, e⟩ := List.getElem_of_mem h
  exact ⟨k, by rw [List.getElem?_eq_getElem hk, e]⟩
/-- a cell is written -/
theorem HR_set {A : Nat → Prop} {as : Nat → Nat} {S : pS} {tys : List (ClassId × FieldType)} {ws : va_W} {q k : Nat} {c c' : pC} {e e' : va_E} (h : HR as S tys ws) (hq : S.2.2 q = some c) (hc : ¬ ∃ k f, c = cT k f) (hk : ws[k]? = some (as q, e)) (hr : rlE as S.1 tys c' e') : HR as (pSet S q c') tys (ws.set k (as q, e')) := by
  have hqn : q < S.1 := by
    rcases h.1 q c hq with h1 | h1
    · exact absurd h1 hc
    · exact h1.1
  have hkl : k < ws.length := (List.getElem?_eq_some_iff.mp hk).1
  have hns : nsc (S.2.2 q) := ⟨c, hq, hc⟩
  have hne : ∀ i, nsc ((pSet S q c').2.2 i) → nsc (S.2.2 i) := by
    intro i hi
    by_cases e1 : i = q
    · subst e1; exact hns
    · simpa [pSet, e1] using hi
  refine ⟨fun i x hi => ?_, fun i j h3 h4 h5 => h.2 i j (hne i h3) (hne j h4) h5⟩
  by_cases e1 : i = q
  · subst e1
    have e2 : c' = x := by simpa [pSet] using hi
    subst e2
    exact Or.inr ⟨hqn, e', List.mem_of_getElem? (i := k) (by rw [List.getElem?_set_self hkl]), hr⟩
  · have hi' : S.2.2 i = some x := by simpa [pSet, e1] using hi
    by_cases hx0 : ∃ k f, x = cT k f
    · exact Or.inl hx0
    · rcases h.1 i x hi' with h1 | ⟨hin, ex, hm, hx⟩
      · exact Or.inl h1
      · obtain ⟨k2, hk2⟩ := mem_ix hm
        refine Or.inr ⟨hin, ex, ?_, hx⟩
        have hkk : k ≠ k2 := by
          intro ek
          subst ek
          rw [hk] at hk2
          have e3 : as q = as i := congrArg Prod.fst (Option.some.inj hk2)
          exact e1 (h.2 i q ⟨x, hi', hx0⟩ hns e3.symm)
        exact List.mem_of_getElem? (i := k2) (by rw [List.getElem?_set_ne hkk]; exact hk2)
def asN (as : Nat → Nat) (n q : Nat) : Nat → Nat := fun j => if j = n then q else as j
theorem asN_old {as : Nat → Nat} {n q : Nat} (hn : n < pSB) : ∀ r, okR n r → asN as n q r = as r := by
  intro r hr
  have : r ≠ n := by rcases hr with h | h <;> omega
  simp [asN, this]
theorem asN_new (as : Nat → Nat) (n q : Nat) : asN as n q n = q := by simp [asN]
/-- a cell is made -/
theorem HR_new {A : Nat → Prop} {as : Nat → Nat} {S : pS} {tys tys' : List (ClassId × FieldType)} {ws : va_W} {q sl : Nat} {c : pC} {e : va_E} (h : HR as S tys ws) (hn : S.1 < pSB) (hD : va_D A (ws ++ [(q, e)])) (ht : ∀ x ∈ tys, x ∈ tys') (hr : rlE (asN as S.1 q) (S.1 + 1) tys' c e) : HR (asN as S.1 q) (pNew S c sl) tys' (ws ++ [(q, e)]) := by
  have old := asN_old (as := as) (q := q) hn
  have key : ∀ i x, S.2.2 i = some x → ¬ (∃ k f, x = cT k f) → i < S.1 ∧ asN as S.1 q i = as i ∧ as i ≠ q := by
    intro i x hi hx
    rcases h.1 i x hi with h1 | ⟨hin, ex, hm, hx'⟩
    · exact absurd h1 hx
    · refine ⟨hin, old i (Or.inl hin), fun e1 => ?_⟩
      obtain ⟨k, hk⟩ := mem_ix hm
      have hkl : k < ws.length := (List.getElem?_eq_some_iff.mp hk).1
      have := hD.1 k ws.length (as i, ex) (q, e) (by rw [List.getElem?_append_left hkl]; exact hk) (by simp) e1
      omega
  refine ⟨fun i x hi => ?_, fun i j h3 h4 h5 => ?_⟩
  · by_cases e1 : i = S.1
    · subst e1
      have e2 : c = x := by simpa [pNew] using hi
      subst e2
      refine Or.inr ⟨Nat.lt_succ_self _, e, ?_, hr⟩
      rw [asN_new]
      simp
    · have hi' : S.2.2 i = some x := by simpa [pNew, e1] using hi
      rcases h.1 i x hi' with h1 | ⟨hin, ex, hm, hx⟩
      · exact Or.inl h1
      · refine Or.inr ⟨Nat.lt_succ_of_lt hin, ex, ?_, rlE_up old (Nat.le_succ _) ht hx⟩
        rw [old i (Or.inl hin)]
        exact List.mem_append_left _ hm
  · have tr : ∀ i, i ≠ S.1 → nsc ((pNew S c sl).2.2 i) → asN as S.1 q i = as i ∧ as i ≠ q ∧ nsc (S.2.2 i) := by
      intro i hne h3
      have h3' : nsc (S.2.2 i) := by simpa [pNew, hne] using h3
      obtain ⟨x, hx, hx'⟩ := h3'
      obtain ⟨k1, k2, k3⟩ := key i x hx hx'
      exact ⟨k2, k3, x, hx, hx'⟩
    by_cases e1 : i = S.1
    · by_cases e2 : j = S.1
      · omega
      · obtain ⟨hj, hjq, -⟩ := tr j e2 h4
        rw [e1, asN_new, hj] at h5
        exact absurd h5.symm hjq
    · obtain ⟨hi, hiq, hin⟩ := tr i e1 h3
      by_cases e2 : j = S.1
      · rw [e2, asN_new, hi] at h5
        exact absurd h5 hiq
      · obtain ⟨hj, hjq, hjn⟩ := tr j e2 h4
        rw [hi, hj] at h5
        exact h.2 i j hin hjn h5
/-- a cell of the world by its kind -/
theorem HR_at {as : Nat → Nat} {S : pS} {tys : List (ClassId × FieldType)} {ws : va_W} {q : Nat} {c : pC} (h : HR as S tys ws) (hq : S.2.2 q = some c) (hc : ¬ ∃ k f, c = cT k f) : ∃ (k : Nat) (e : va_E), ws[k]? = some (as q, e) ∧ rlE as S.1 tys c e ∧ q < S.1 := by
  rcases h.1 q c hq with h1 | ⟨h1, e, h2, h3⟩
  · exact absurd h1 hc
  · obtain ⟨k, hk⟩ := mem_ix h2
    exact ⟨k, e, hk, h3, h1⟩
theorem HR_obj {as : Nat → Nat} {S : pS} {tys : List (ClassId × FieldType)} {ws : va_W} {q ci : Nat} {fs : List Value} (h : HR as S tys ws) (hq : gO S q ci = some fs) : S.2.2 q = some (cO ci fs) ∧ (∃ k : Nat, ws[k]? = some (as q, .inr (ci, fs.map (rv as)))) ∧ (∀ v ∈ fs, okV S.1 v) ∧ q < S.1 := by
  unfold gO at hq
  split at hq
  · next c fs' hs =>
    split at hq
    · next hc =>
      subst hc
      cases hq
      obtain ⟨k, e, h1, ⟨h2, h3⟩, h4⟩ := HR_at h hs (by rintro ⟨k, f, h⟩; cases h)
      exact ⟨hs, ⟨k, by rw [h1, h2]⟩, h3, h4⟩
    · cases hq
  · cases hq
theorem HR_int {as : Nat → Nat} {S : pS} {tys : List (ClassId × FieldType)} {ws : va_W} {q n : Nat} {f : Nat → Int32} (h : HR as S tys ws) (hq : S.2.2 q = some (cI n f)) : ∃ (k t : Nat) (cA : ClassId), ws[k]? = some (as q, .inl (cA, n, .inl f)) ∧ tys[t]? = some (cA, .int) := by
  obtain ⟨k, e, h1, ⟨cA, h2, h3⟩, -⟩ := HR_at h hq (by rintro ⟨k, f, h⟩; cases h)
  obtain ⟨t, ht⟩ := mem_ix h2
  exact ⟨k, t, cA, by rw [h1, h3], ht⟩
theorem HR_long {as : Nat → Nat} {S : pS} {tys : List (ClassId × FieldType)} {ws : va_W} {q n : Nat} {f : Nat → Int64} (h : HR as S tys ws) (hq : S.2.2 q = some (cL n f)) : ∃ (k t : Nat) (cA : ClassId), ws[k]? = some (as q, .inl (cA, n, .inr (.inl f))) ∧ tys[t]? = some (cA, .long) := by
  obtain ⟨k, e, h1, ⟨cA, h2, h3⟩, -⟩ := HR_at h hq (by rintro ⟨k, f, h⟩; cases h)
  obtain ⟨t, ht⟩ := mem_ix h2
  exact ⟨k, t, cA, by rw [h1, h3], ht⟩
theorem HR_ref {as : Nat → Nat} {S : pS} {tys : List (ClassId × FieldType)} {ws : va_W} {q n : Nat} {g : Nat → Option Nat} (h : HR as S tys ws) (hq : S.2.2 q = some (cQ n g)) : (∃ (k t : Nat) (cA : ClassId), ws[k]? = some (as q, .inl (cA, n, .inr (.inr (.inr (.inr fun j => (g j).map as))))) ∧ tys[t]? = some (cA, .object RX2)) ∧ ∀ j r, g j = some r → okR S.1 r := by
  obtain ⟨k, e, h1, ⟨⟨cA, h2, h3⟩, h4⟩, -⟩ := HR_at h hq (by rintro ⟨k, f, h⟩; cases h)
  obtain ⟨t, ht⟩ := mem_ix h2
  exact ⟨⟨k, t, cA, by rw [h1, h3], ht⟩, h4⟩
end
section
/-! THE LOCALS -/
def LV (j : Bool) (as : Nat → Nat) (mls : Array Slot) (nL : Nat) (ls : List Value) : Prop :=
  mls.size = nL ∧ lv_wf mls ∧ ls.length = nL ∧ (∀ (i : Nat) (v : Value), ls[i]? = some v → v ≠ mk0 → mls[i]? = some (.val (rv as v))) ∧ (∀ v ∈ ls, ∀ x, v ≠ .double x) ∧ (j = false → ∀ v ∈ ls, ∀ x, v ≠ .long x)
def lvP (as : Nat → Nat) (ls : List Value) : List (Nat × Value) := (List.range ls.length).filterMap fun i => match ls[i]? with
  | some v => if v = mk0 then none else some (i, rv as v)
  | none => none
theorem lvP_mem {as : Nat → Nat} {ls : List Value} {i : Nat} {w : Value} : (i, w) ∈ lvP as ls ↔ ∃ v, ls[i]? = some v ∧ v ≠ mk0 ∧ w = rv as v := by
  unfold lvP
  rw [List.mem_filterMap]
  constructor
  · rintro ⟨k, hk, h⟩
    cases hv : ls[k]? with
    | none => rw [hv] at h; cases h
    | some v =>
      rw [hv] at h
      by_cases hm : v = mk0
      · simp [hm] at h
      · simp only [hm, if_false, Option.some.injEq, Prod.mk.injEq] at h
        obtain ⟨rfl, rfl⟩ := h
        exact ⟨v, hv, hm, rfl⟩
  · rintro ⟨v, hv, hm, rfl⟩
    refine ⟨i, ?_, ?_⟩
    · rw [List.mem_range]
      exact (List.getElem?_eq_some_iff.mp hv).1
    · rw [hv]
      simp [hm]
theorem LV.has {j : Bool} {as : Nat → Nat} {mls : Array Slot} {nL : Nat} {ls : List Value} (h : LV j as mls nL ls) : lv_has mls nL (lvP as ls) := by
  refine ⟨h.1, h.2.1, ?_⟩
  rintro ⟨i, w⟩ hq
  obtain ⟨v, h1, h2, rfl⟩ := lvP_mem.mp hq
  exact h.2.2.2.1 i v h1 h2
theorem LV.at {j : Bool} {as : Nat → Nat} {mls : Array Slot} {nL : Nat} {ls : List Value} (h : LV j as mls nL ls) {i : Nat} {v : Value} (hi : ls[i]? = some v) (hm : v ≠ mk0) : mls[i]? = some (.val (rv as v)) := h.2.2.2.1 i v hi hm
theorem rv_cat (as : Nat → Nat) (v : Value) : (rv as v).category = v.category := by cases v <;> rfl
theorem LV.ext {j : Bool} {as as' : Nat → Nat} {mls : Array Slot} {nL n : Nat} {ls : List Value} (h : LV j as mls nL ls) (ha : ∀ r, okR n r → as' r = as r) (ho : ∀ v ∈ ls, okV n v) : LV j as' mls nL ls := by
  refine ⟨h.1, h.2.1, h.2.2.1, fun i v h1 h2 => ?_, h.2.2.2.2⟩
  rw [rv_ext ha (ho v (List.mem_of_getElem? h1))]
  exact h.2.2.2.1 i v h1 h2
theorem pClr_get {ls : List Value} {i k : Nat} {w : Value} (h : (pClr ls i)[k]? = some w) (hm : w ≠ mk0) : ls[k]? = some w ∧ ¬ (k + 1 = i ∧ ∃ x, w = .long x) := by
  cases i with
  | zero => exact ⟨h, by rintro ⟨h1, -⟩; omega⟩
  | succ i =>
    unfold pClr at h
    dsimp only at h
    split at h
    · next x hx =>
      by_cases e : i = k
      · subst e
        rw [List.getElem?_set_self (List.getElem?_eq_some_iff.mp hx).1] at h
        exact absurd (Option.some.inj h).symm hm
      · rw [List.getElem?_set_ne e] at h
        exact ⟨h, by rintro ⟨h1, -⟩; omega⟩
    · next hx =>
      refine ⟨h, ?_⟩
      rintro ⟨h1, x, rfl⟩
      have : i = k := by omega
      subst this
      exact hx x h
theorem pClr_len (ls : List Value) (i : Nat) : (pClr ls i).length = ls.length := by
  unfold pClr
  split
  · rfl
  · split
    · simp
    · rfl
theorem pClr_mem {ls : List Value} {i : Nat} {w : Value} (h : w ∈ pClr ls i) : w ∈ ls ∨ w = mk0 := by
  unfold pClr at h
  split at h
  · exact Or.inl h
  · split at h
    · rcases List.mem_or_eq_of_mem_set h with h | h
      · exact Or.inl h
      · exact Or.inr h
    · exact Or.inl h
/-- behind the store of one word -/
theorem LV.st1 {j : Bool} {as : Nat → Nat} {mls mls' : Array Slot} {nL i b : Nat} {ls : List Value} {v : Value} (h : LV j as mls nL ls) (hb : j = (Nat.beq b 1)) (hb1 : b ≤ 1) (hi : i < nL) (hv : ∀ x, v ≠ .double x) (hv2 : ∀ x, v ≠ .long x) (hm : v ≠ mk0)
    (h' : lv_has mls' nL ((i, rv as v) :: (lvP as ls).filter (fun q => !(q.1 == i) && !(q.1 + 1 == i && q.2.category == 2)))) : LV j as mls' nL (pSt b ls i v) := by
  obtain ⟨h1, h2, h3, h4, h5, h6⟩ := h
  have step : ∀ (k : Nat) (w : Value), k ≠ i → ls[k]? = some w → w ≠ mk0 → ¬ (k + 1 = i ∧ ∃ x, w = .long x) → mls'[k]? = some (.val (rv as w)) := by
    intro k w hk hw hwm hl
    refine h'.2.2 (k, rv as w) (List.mem_cons_of_mem _ (List.mem_filter.mpr ⟨lvP_mem.mpr ⟨w, hw, hwm, rfl⟩, ?_⟩))
    have hc : ¬ (k + 1 = i ∧ (rv as w).category = 2) := by
      rintro ⟨e1, e2⟩
      rw [rv_cat] at e2
      have hd := h5 w (List.mem_of_getElem? hw)
      cases w <;> simp [Value.category] at e2
      · exact hl ⟨e1, _, rfl⟩
      · exact hd _ rfl
    simp only [Bool.and_eq_true, Bool.not_eq_true', beq_eq_false_iff_ne, ne_eq, Bool.and_eq_false_iff]
    refine ⟨hk, ?_⟩
    by_cases e1 : k + 1 = i
    · right
      intro e2
      exact hc ⟨e1, e2⟩
    · left
      exact e1
  have self : mls'[i]? = some (.val (rv as v)) := h'.2.2 (i, rv as v) List.mem_cons_self
  have hbs : b = 0 ∨ b = 1 := by omega
  rcases hbs with rfl | rfl
  · have hj : j = false := hb
    refine ⟨h'.1, h'.2.1, by simp [pSt, h3], ?_, ?_, ?_⟩
    · intro k w hw hwm
      by_cases e1 : i = k
      · subst e1
        simp only [pSt] at hw
        rw [List.getElem?_set_self (by omega)] at hw
        cases hw
        exact self
      · simp only [pSt] at hw
        rw [List.getElem?_set_ne e1] at hw
        exact step k w (fun e => e1 e.symm) hw hwm (by rintro ⟨-, x, rfl⟩; exact h6 hj _ (List.mem_of_getElem? hw) x rfl)
    · intro w hw x
      rcases List.mem_or_eq_of_mem_set hw with h | h
      · exact h5 w h x
      · rw [h]; exact hv x
    · intro _ w hw x
      rcases List.mem_or_eq_of_mem_set hw with h | h
      · exact h6 hj w h x
      · rw [h]; exact hv2 x
  · have hj : j = true := hb
    refine ⟨h'.1, h'.2.1, by simp [pSt, pSt1, pClr_len, h3], ?_, ?_, ?_⟩
    · intro k w hw hwm
      simp only [pSt, pSt1] at hw
      by_cases e1 : i = k
      · subst e1
        rw [List.getElem?_set_self (by rw [pClr_len]; omega)] at hw
        cases hw
        exact self
      · rw [List.getElem?_set_ne e1] at hw
        obtain ⟨g1, g2⟩ := pClr_get hw hwm
        exact step k w (fun e => e1 e.symm) g1 hwm g2
    · intro w hw x
      rcases List.mem_or_eq_of_mem_set hw with h | h
      · rcases pClr_mem h with h | h
        · exact h5 w h x
        · rw [h]; intro e; cases e
      · rw [h]; exact hv x
    · intro e; rw [hj] at e; cases e
/-- behind the store of a long -/
theorem LV.st2 {as : Nat → Nat} {mls mls' : Array Slot} {nL i : Nat} {ls : List Value} {y : Int64} (h : LV true as mls nL ls) (hi : i + 1 < nL)
    (h' : lv_has mls' nL ((i, Value.long y) :: (lvP as ls).filter (fun q => !(q.1 == i) && (!(q.1 == i + 1) && !(q.1 + 1 == i && q.2.category == 2))))) : LV true as mls' nL (pSt2 ls i (.long y)) := by
  obtain ⟨h1, h2, h3, h4, h5, h6⟩ := h
  refine ⟨h'.1, h'.2.1, by simp [pSt2, pClr_len, h3], ?_, ?_, fun e => by cases e⟩
  · intro k w hw hwm
    simp only [pSt2] at hw
    by_cases e0 : i + 1 = k
    · subst e0
      rw [List.getElem?_set_self (by simp [pClr_len]; omega)] at hw
      exact absurd (Option.some.inj hw).symm hwm
    · rw [List.getElem?_set_ne e0] at hw
      by_cases e1 : i = k
      · subst e1
        rw [List.getElem?_set_self (by rw [pClr_len]; omega)] at hw
        cases hw
        exact h'.2.2 (i, .long y) List.mem_cons_self
      · rw [List.getElem?_set_ne e1] at hw
        obtain ⟨g1, g2⟩ := pClr_get hw hwm
        refine h'.2.2 (k, rv as w) (List.mem_cons_of_mem _ (List.mem_filter.mpr ⟨lvP_mem.mpr ⟨w, g1, hwm, rfl⟩, ?_⟩))
        have hc : ¬ (k + 1 = i ∧ (rv as w).category = 2) := by
          rintro ⟨e1, e2⟩
          rw [rv_cat] at e2
          have hd := h5 w (List.mem_of_getElem? g1)
          cases w <;> simp [Value.category] at e2
          · exact g2 ⟨e1, _, rfl⟩
          · exact hd _ rfl
        simp only [Bool.and_eq_true, Bool.not_eq_true', beq_eq_false_iff_ne, ne_eq, Bool.and_eq_false_iff]
        refine ⟨fun e => e1 e.symm, fun e => e0 e.symm, ?_⟩
        by_cases e2 : k + 1 = i
        · right
          intro e3
          exact hc ⟨e2, e3⟩
        · left
          exact e2
  · intro w hw x
    rcases List.mem_or_eq_of_mem_set hw with h | h
    · rcases List.mem_or_eq_of_mem_set h with h | h
      · rcases pClr_mem h with h | h
        · exact h5 w h x
        · rw [h]; intro e; cases e
      · rw [h]; intro e; cases e
    · rw [h]; intro e; cases e
/-- at a method's entry -/
theorem ent_args : ∀ (vs : List Value) (k i : Nat) (v : Value), (entL vs)[i]? = some v → v ≠ mk0 → (∀ v ∈ vs, ∀ x, v ≠ .double x) → (k + i, v) ∈ lv_args k vs := by
  intro vs
  induction vs with
  | nil => intro k i v h; simp [entL] at h
  | cons a vs ih =>
    intro k i v h hm hd
    have hd' : ∀ v ∈ vs, ∀ x, v ≠ .double x := fun v hv => hd v (List.mem_cons_of_mem _ hv)
    have one : a.category = 1 → entL (a :: vs) = a :: entL vs → (k + i, v) ∈ lv_args k (a :: vs) := by
      intro hc he
      rw [he] at h
      cases i with
      | zero =>
        simp only [List.getElem?_cons_zero, Option.some.injEq] at h
        subst h
        simp [lv_args]
      | succ i =>
        simp only [List.getElem?_cons_succ] at h
        have := ih (k + 1) i v h hm hd'
        simp only [lv_args, hc, List.mem_cons]
        right
        have e : k + (i + 1) = k + 1 + i := by omega
        rw [e]
        exact this
    cases a with
    | long y =>
      simp only [entL] at h
      match i, h with
      | 0, h =>
        simp only [List.getElem?_cons_zero, Option.some.injEq] at h
        subst h
        simp [lv_args]
      | 1, h =>
        simp only [List.getElem?_cons_succ, List.getElem?_cons_zero, Option.some.injEq] at h
        exact absurd h.symm hm
      | i + 2, h =>
        simp only [List.getElem?_cons_succ] at h
        have := ih (k + 2) i v h hm hd'
        simp only [lv_args, List.mem_cons]
        right
        have e : k + (i + 2) = k + 2 + i := by omega
        rw [e]
        exact this
    | double y => exact absurd rfl (hd (.double y) List.mem_cons_self y)
    | _ => exact one rfl rfl
end
section
/-! CELLS AND SLOTS only grow -/
def ge_ (n sl : Nat) (p : pR) : Prop := ∀ o S', p = some (o, S') → n ≤ S'.1 ∧ sl ≤ S'.2.1
theorem ge_n {n sl : Nat} : ge_ n sl none := fun _ _ h => by cases h
theorem ge_k {n sl : Nat} {o : pO} {S : pS} (h : n ≤ S.1) (h2 : sl ≤ S.2.1) : ge_ n sl (some (o, S)) := fun _ _ e => by cases e; exact ⟨h, h2⟩
theorem ge_if {n sl : Nat} {c : Prop} [Decidable c] {a b : pR} (ha : ge_ n sl a) (hb : ge_ n sl b) : ge_ n sl (if c then a else b) := by
  by_cases h : c
  · simpa [h] using ha
  · simpa [h] using hb
theorem ge_b {n sl : Nat} {c : Bool} {a b : pR} (ha : ge_ n sl a) (hb : ge_ n sl b) : ge_ n sl (bif c then a else b) := by
  cases c
  · exact hb
  · exact ha
theorem ge_o {n sl : Nat} {α : Type} (o : Option α) {K : α → pR} (h : ∀ x, o = some x → ge_ n sl (K x)) : ge_ n sl (o.bind K) := by
  cases o with
  | none => exact ge_n
  | some x => exact h x rfl
theorem ge_w {n sl n' sl' : Nat} {p : pR} (h : ge_ n' sl' p) (h1 : n ≤ n') (h2 : sl ≤ sl') : ge_ n sl p := fun o S e => ⟨Nat.le_trans h1 (h o S e).1, Nat.le_trans h2 (h o S e).2⟩
theorem pF_sz {s s' : pS} {q c k : Nat} {v : Value} (h : pF s q c k v = some s') : s'.1 = s.1 ∧ s'.2.1 = s.2.1 := by
  unfold pF at h
  split at h
  · split at h
    · cases h; exact ⟨rfl, rfl⟩
    · cases h
  · cases h
theorem pI_sz {s s' : pS} {q : Nat} {i x : Int32} (h : pI s q i x = some s') : s'.1 = s.1 ∧ s'.2.1 = s.2.1 := by
  unfold pI at h
  split at h
  · split at h
    · cases h
    · cases h; exact ⟨rfl, rfl⟩
  · cases h
theorem pL_sz {s s' : pS} {q : Nat} {i : Int32} {x : Int64} (h : pL s q i x = some s') : s'.1 = s.1 ∧ s'.2.1 = s.2.1 := by
  unfold pL at h
  split at h
  · split at h
    · cases h
    · cases h; exact ⟨rfl, rfl⟩
  · cases h
theorem pQ_sz {s s' : pS} {q : Nat} {i : Int32} {x : Option Nat} (h : pQ s q i x = some s') : s'.1 = s.1 ∧ s'.2.1 = s.2.1 := by
  unfold pQ at h
  split at h
  · split at h
    · cases h
    · split at h
      · cases h; exact ⟨rfl, rfl⟩
      · split at h
        · cases h; exact ⟨rfl, rfl⟩
        · cases h
  · cases h
theorem pCp_sz {s s' : pS} {q r : Nat} {i j k : Int32} (h : pCp s q i r j k = some s') : s'.1 = s.1 ∧ s'.2.1 = s.2.1 := by
  unfold pCp at h
  split at h
  · split at h
    · cases h
    · cases h; exact ⟨rfl, rfl⟩
  · cases h
theorem ge_kSw {n sl : Nat} (l : List (Int32 × Nat)) (d : Nat) (x : Int32) {F : Nat → pR} (h : ∀ x, ge_ n sl (F x)) : ge_ n sl (kSw l d x F) := by
  induction l with
  | nil => exact h _
  | cons a l ih => obtain ⟨c, t⟩ := a; exact ge_if (h _) ih
theorem ge_hX {n sl : Nat} (l : List (Nat × Nat × Nat × Nat)) (pc c : Nat) {D : pR} {F : Nat → pR} (hD : ge_ n sl D) (h : ∀ x, ge_ n sl (F x)) : ge_ n sl (hX l pc c F D) := by
  induction l with
  | nil => exact hD
  | cons a l ih =>
    obtain ⟨a, b, x, k⟩ := a
    exact ge_b (ge_if (h _) ih) ih
section
variable {C : Nat → List Value → pS → pR} {K : Nat → List Value → List Value → pS → pR}
theorem ge_X (M pc : Nat) (ls : List Value) (hK : ∀ pc ls st (s : pS), ge_ s.1 s.2.1 (K pc ls st s)) (c i : Nat) (s : pS) : ge_ s.1 s.2.1 (pX K M pc ls c i s) :=
  ge_hX _ _ _ (by split; exact ge_k (Nat.le_refl _) (Nat.le_refl _); exact ge_n) (fun _ => hK _ _ _ _)
theorem ge_call {X : Nat → Nat → pS → pR} (M pc len : Nat) (t : Int) (a b : Nat) (ls st : List Value) (s : pS) (hC : ∀ M a (s : pS), ge_ s.1 s.2.1 (C M a s)) (hK : ∀ pc ls st (s : pS), ge_ s.1 s.2.1 (K pc ls st s)) (hX : ∀ c i (s : pS), ge_ s.1 s.2.1 (X c i s)) : ge_ s.1 s.2.1 (pCall C K X M pc len t a b ls st s) := by
  unfold pCall
  refine ge_b ?_ ge_n
  have h1 := hC a (st.take b).reverse s
  split
  all_goals
    first | unfold kC0 | unfold kC1 | unfold kC2 | unfold kC3
    split
    · next e => exact ge_w (hK _ _ _ _) (h1 _ _ e).1 (h1 _ _ e).2
    · next e => exact ge_w (hX _ _ _) (h1 _ _ e).1 (h1 _ _ e).2
    · exact ge_n
set_option maxRecDepth 10000 in
set_option maxHeartbeats 4000000 in
theorem pStep_ge (M pc : Nat) (e : pE) (ls st : List Value) (s : pS) (hC : ∀ M a (s : pS), ge_ s.1 s.2.1 (C M a s)) (hK : ∀ pc ls st (s : pS), ge_ s.1 s.2.1 (K pc ls st s)) : ge_ s.1 s.2.1 (pStep C K M pc e ls st s) := by
  obtain ⟨len, op, x, a, b⟩ := e
  unfold pStep
  dsimp only
  split
  all_goals
    repeat' first
      | exact ge_n
      | exact hK _ _ _ _
      | exact ge_w (hK _ _ _ _) (Nat.le_succ _) (Nat.le_add_right _ _)
      | exact ge_k (Nat.le_refl _) (Nat.le_refl _)
      | exact ge_k (Nat.le_succ _) (Nat.le_add_right _ _)
      | exact ge_call M pc _ _ _ _ _ _ _ hC hK (fun _ _ _ => ge_n)
      | exact ge_call M pc _ _ _ _ _ _ _ (fun _ _ _ => ge_b (hC _ _ _) ge_n) hK (fun _ _ _ => ge_n)
      | exact ge_call M pc _ _ _ _ _ _ _ (fun _ _ _ => ge_b (hC _ _ _) ge_n) hK (fun _ _ _ => ge_X M pc _ hK _ _ _)
      | (refine ge_if ?_ ?_)
      | (refine ge_b ?_ ?_)
      | (refine ge_kSw _ _ _ (fun _ => ?_))
      | (refine ge_o _ (fun s' h => ?_); first | exact ge_w (hK _ _ _ _) (Nat.le_of_eq (pF_sz h).1.symm) (Nat.le_of_eq (pF_sz h).2.symm) | exact ge_w (hK _ _ _ _) (Nat.le_of_eq (pI_sz h).1.symm) (Nat.le_of_eq (pI_sz h).2.symm) | exact ge_w (hK _ _ _ _) (Nat.le_of_eq (pL_sz h).1.symm) (Nat.le_of_eq (pL_sz h).2.symm) | exact ge_w (hK _ _ _ _) (Nat.le_of_eq (pQ_sz h).1.symm) (Nat.le_of_eq (pQ_sz h).2.symm) | exact ge_w (hK _ _ _ _) (Nat.le_of_eq (pCp_sz h).1.symm) (Nat.le_of_eq (pCp_sz h).2.symm) | skip)
      | unfold tI
      | unfold tJ
      | unfold tA
      | unfold kI
      | unfold kII
      | unfold kJ
      | unfold kJJ
      | unfold kA
      | unfold kAn
      | unfold kIA
      | unfold kIIA
      | unfold kJIA
      | unfold kAIA
      | unfold kV1
      | unfold oN
      | dsimp only
      | split
end
theorem run_ge : ∀ (f d M pc : Nat) (ls st : List Value) (s : pS), ge_ s.1 s.2.1 (run f d M pc ls st s) := by
  intro f
  induction f with
  | zero => intro d M pc ls st s; exact ge_n
  | succ f ih =>
    intro d M pc ls st s
    unfold run
    split
    · exact ge_n
    · refine pStep_ge _ _ _ _ _ _ (fun M a s => ?_) (fun pc ls st s => ih _ _ _ _ _ _)
      cases d with
      | zero => exact ge_n
      | succ d => exact ih _ _ _ _ _ _
end
section
/-! what an instruction has taken -/
def okL (n : Nat) (l : List Value) : Prop := ∀ v ∈ l, okV n v
theorem okL_c {n : Nat} {v : Value} {l : List Value} : okL n (v :: l) ↔ okV n v ∧ okL n l := List.forall_mem_cons
theorem okL_n {n : Nat} : okL n [] := fun _ h => nomatch h
theorem okL_up {n n' : Nat} (h : n ≤ n') {l : List Value} (hl : okL n l) : okL n' l := fun v hv => okV_up h (hl v hv)
theorem okL_get {n : Nat} {l : List Value} (hl : okL n l) {i : Nat} {v : Value} (h : l[i]? = some v) : okV n v := hl v (List.mem_of_getElem? h)
theorem okL_set {n : Nat} {l : List Value} (hl : okL n l) {i : Nat} {v : Value} (hv : okV n v) : okL n (l.set i v) := fun w hw => (List.mem_or_eq_of_mem_set hw).elim (hl w) (fun e => by rw [e]; exact hv)
theorem okL_clr {n : Nat} {l : List Value} (hl : okL n l) (i : Nat) : okL n (pClr l i) := fun w hw => (pClr_mem hw).elim (hl w) (fun e => by rw [e]; trivial)
theorem okL_st {n b : Nat} {l : List Value} (hl : okL n l) {i : Nat} {v : Value} (hv : okV n v) : okL n (pSt b l i v) := by
  unfold pSt
  split
  · exact okL_set hl hv
  · exact okL_set (okL_clr hl i) hv
theorem okL_st2 {n : Nat} {l : List Value} (hl : okL n l) {i : Nat} {v : Value} (hv : okV n v) : okL n (pSt2 l i v) := okL_set (okL_set (okL_clr hl i) hv) trivial
theorem okL_map {n : Nat} {l : List Value} (hl : okL n l) {as as' : Nat → Nat} (h : ∀ r, okR n r → as' r = as r) : l.map (rv as') = l.map (rv as) := List.map_congr_left fun v hv => rv_ext h (hl v hv)
theorem okL_take {n k : Nat} {l : List Value} (hl : okL n l) : okL n (l.take k) := fun v hv => hl v (List.mem_of_mem_take hv)
theorem okL_drop {n k : Nat} {l : List Value} (hl : okL n l) : okL n (l.drop k) := fun v hv => hl v (List.mem_of_mem_drop hv)
theorem okL_rev {n : Nat} {l : List Value} (hl : okL n l) : okL n l.reverse := fun v hv => hl v (List.mem_reverse.mp hv)
section
variable {z : pO × pS} {st : List Value} {o : Option Value}
theorem tI_i {K : Int32 → pR} (h : tI o K = some z) : ∃ v, o = some (.int v) ∧ K v = some z := by
  unfold tI at h; split at h
  · exact ⟨_, rfl, h⟩
  · cases h
theorem tJ_i {K : Int64 → pR} (h : tJ o K = some z) : ∃ v, o = some (.long v) ∧ K v = some z := by
  unfold tJ at h; split at h
  · exact ⟨_, rfl, h⟩
  · cases h
theorem tA_i {K : Option Nat → pR} (h : tA o K = some z) : ∃ v, o = some (va_rf v) ∧ K v = some z := by
  unfold tA at h; split at h
  · exact ⟨some _, rfl, h⟩
  · exact ⟨none, rfl, h⟩
  · cases h
theorem kI_i {K : Int32 → List Value → pR} (h : kI st K = some z) : ∃ v r, st = .int v :: r ∧ K v r = some z := by
  unfold kI at h; split at h
  · exact ⟨_, _, rfl, h⟩
  · cases h
theorem kII_i {K : Int32 → Int32 → List Value → pR} (h : kII st K = some z) : ∃ x y r, st = .int y :: .int x :: r ∧ K x y r = some z := by
  unfold kII at h; split at h
  · exact ⟨_, _, _, rfl, h⟩
  · cases h
theorem kJ_i {K : Int64 → List Value → pR} (h : kJ st K = some z) : ∃ v r, st = .long v :: r ∧ K v r = some z := by
  unfold kJ at h; split at h
  · exact ⟨_, _, rfl, h⟩
  · cases h
theorem kJJ_i {K : Int64 → Int64 → List Value → pR} (h : kJJ st K = some z) : ∃ x y r, st = .long y :: .long x :: r ∧ K x y r = some z := by
  unfold kJJ at h; split at h
  · exact ⟨_, _, _, rfl, h⟩
  · cases h
theorem kA_i {K : Nat → List Value → pR} (h : kA st K = some z) : ∃ v r, st = .ref v :: r ∧ K v r = some z := by
  unfold kA at h; split at h
  · exact ⟨_, _, rfl, h⟩
  · cases h
theorem kAn_i {K : Option Nat → List Value → pR} (h : kAn st K = some z) : ∃ v r, st = va_rf v :: r ∧ K v r = some z := by
  unfold kAn at h; split at h
  · exact ⟨some _, _, rfl, h⟩
  · exact ⟨none, _, rfl, h⟩
  · cases h
theorem kIA_i {K : Nat → Int32 → List Value → pR} (h : kIA st K = some z) : ∃ q i r, st = .int i :: .ref q :: r ∧ K q i r = some z := by
  unfold kIA at h; split at h
  · exact ⟨_, _, _, rfl, h⟩
  · cases h
theorem kIIA_i {K : Nat → Int32 → Int32 → List Value → pR} (h : kIIA st K = some z) : ∃ q i x r, st = .int x :: .int i :: .ref q :: r ∧ K q i x r = some z := by
  unfold kIIA at h; split at h
  · exact ⟨_, _, _, _, rfl, h⟩
  · cases h
theorem kJIA_i {K : Nat → Int32 → Int64 → List Value → pR} (h : kJIA st K = some z) : ∃ q i x r, st = .long x :: .int i :: .ref q :: r ∧ K q i x r = some z := by
  unfold kJIA at h; split at h
  · exact ⟨_, _, _, _, rfl, h⟩
  · cases h
theorem kAIA_i {K : Nat → Int32 → Option Nat → List Value → pR} (h : kAIA st K = some z) : ∃ q i x r, st = va_rf x :: .int i :: .ref q :: r ∧ K q i x r = some z := by
  unfold kAIA at h; split at h
  · exact ⟨_, _, some _, _, rfl, h⟩
  · exact ⟨_, _, none, _, rfl, h⟩
  · cases h
theorem kV1_i {K : Value → List Value → pR} (h : kV1 st K = some z) : ∃ v r, st = v :: r ∧ ((∃ x, v = .int x) ∨ ∃ x, v = .ref x) ∧ K v r = some z := by
  unfold kV1 at h; split at h
  · exact ⟨_, _, rfl, Or.inl ⟨_, rfl⟩, h⟩
  · exact ⟨_, _, rfl, Or.inr ⟨_, rfl⟩, h⟩
  · cases h
theorem bd_i {α : Type} {p : Option α} {K : α → pR} (h : p.bind K = some z) : ∃ v, p = some v ∧ K v = some z := by
  cases p with
  | none => cases h
  | some v => exact ⟨v, rfl, h⟩
theorem if_i {c : Prop} [Decidable c] {K : pR} (h : (if c then none else K) = some z) : ¬ c ∧ K = some z := by
  by_cases hc : c
  · simp [hc] at h
  · exact ⟨hc, by simpa [hc] using h⟩
theorem bf_i {c : Bool} {K : pR} (h : (bif c then K else none) = some z) : c = true ∧ K = some z := by
  cases c
  · cases h
  · exact ⟨rfl, h⟩
theorem oN_i {v : Option Nat} {a : pR} {F : Nat → pR} (h : oN v a F = some z) : (v = none ∧ a = some z) ∨ ∃ w, v = some w ∧ F w = some z := by
  cases v with
  | none => exact Or.inl ⟨rfl, h⟩
  | some w => exact Or.inr ⟨w, rfl, h⟩
end
theorem gFi_i {s : pS} {q c k : Nat} {v : Int32} (h : gFi s q c k = some v) : ∃ fs, gO s q c = some fs ∧ fs[k]? = some (.int v) := by
  unfold gFi at h
  split at h
  · next fs e =>
    refine ⟨fs, e, ?_⟩
    split at h
    · next e2 => cases h; exact e2
    · cases h
  · cases h
theorem gFr_i {s : pS} {q c k v : Nat} (h : gFr s q c k = some v) : ∃ fs, gO s q c = some fs ∧ fs[k]? = some (.ref v) := by
  unfold gFr at h
  split at h
  · next fs e =>
    refine ⟨fs, e, ?_⟩
    split at h
    · next e2 => cases h; exact e2
    · cases h
  · cases h
theorem gFv_i {s : pS} {q c k : Nat} {v : Option Nat} (h : gFv s q c k = some v) : ∃ fs, gO s q c = some fs ∧ fs[k]? = some (va_rf v) := by
  unfold gFv at h
  split at h
  · next fs e =>
    refine ⟨fs, e, ?_⟩
    split at h
    · next e2 => cases h; exact e2
    · next e2 => cases h; exact e2
    · cases h
  · cases h
theorem pF_i {s s' : pS} {q c k : Nat} {v : Value} (h : pF s q c k v = some s') : ∃ fs, gO s q c = some fs ∧ k < fs.length ∧ s' = pSet s q (cO c (fs.set k v)) := by
  unfold pF at h
  split at h
  · next fs e =>
    split at h
    · next hk => cases h; exact ⟨fs, e, hk, rfl⟩
    · cases h
  · cases h
theorem gI_i {s : pS} {q : Nat} {i v : Int32} (h : gI s q i = some v) : ∃ n f, (s.2.2 q = some (cI n f) ∨ s.2.2 q = some (cT n f)) ∧ vp_in i n ∧ v = f i.toNatClampNeg := by
  unfold gI at h
  split at h
  · next n f e =>
    split at h
    · cases h
    · next hi => cases h; exact ⟨n, f, Or.inl e, hi, rfl⟩
  · next n f e =>
    split at h
    · cases h
    · next hi => cases h; exact ⟨n, f, Or.inr e, hi, rfl⟩
  · cases h
theorem pI_i {s s' : pS} {q : Nat} {i x : Int32} (h : pI s q i x = some s') : ∃ n f, s.2.2 q = some (cI n f) ∧ vp_in i n ∧ s' = pSet s q (cI n (upd f i.toNatClampNeg x)) := by
  unfold pI at h
  split at h
  · next n f e =>
    split at h
    · cases h
    · next hi => cases h; exact ⟨n, f, e, hi, rfl⟩
  · cases h
theorem gL_i {s : pS} {q : Nat} {i : Int32} {v : Int64} (h : gL s q i = some v) : ∃ n f, s.2.2 q = some (cL n f) ∧ vp_in i n ∧ v = f i.toNatClampNeg := by
  unfold gL at h
  split at h
  · next n f e =>
    split at h
    · cases h
    · next hi => cases h; exact ⟨n, f, e, hi, rfl⟩
  · cases h
theorem pL_i {s s' : pS} {q : Nat} {i : Int32} {x : Int64} (h : pL s q i x = some s') : ∃ n f, s.2.2 q = some (cL n f) ∧ vp_in i n ∧ s' = pSet s q (cL n (vp_updL f i.toNatClampNeg x)) := by
  unfold pL at h
  split at h
  · next n f e =>
    split at h
    · cases h
    · next hi => cases h; exact ⟨n, f, e, hi, rfl⟩
  · cases h
theorem gQ_i {s : pS} {q : Nat} {i : Int32} {v : Option Nat} (h : gQ s q i = some v) : ∃ n f, s.2.2 q = some (cQ n f) ∧ vp_in i n ∧ v = f i.toNatClampNeg := by
  unfold gQ at h
  split at h
  · next n f e =>
    split at h
    · cases h
    · next hi => cases h; exact ⟨n, f, e, hi, rfl⟩
  · cases h
theorem pQ_i {s s' : pS} {q : Nat} {i : Int32} {x : Option Nat} (h : pQ s q i x = some s') : ∃ n f, s.2.2 q = some (cQ n f) ∧ vp_in i n ∧ s' = pSet s q (cQ n (va_up f i.toNatClampNeg x)) ∧ (x = none ∨ ∃ v fs, x = some v ∧ gO s v 2 = some fs) := by
  unfold pQ at h
  split at h
  · next n f e =>
    split at h
    · cases h
    · next hi =>
      split at h
      · cases h; exact ⟨n, f, e, hi, rfl, Or.inl rfl⟩
      · split at h
        · next fs e2 => cases h; exact ⟨n, f, e, hi, rfl, Or.inr ⟨_, fs, rfl, e2⟩⟩
        · cases h
  · cases h
theorem pCp_i {s s' : pS} {q r : Nat} {sp dp n : Int32} (h : pCp s q sp r dp n = some s') : ∃ n0 f n1 g, s.2.2 q = some (cI n0 f) ∧ s.2.2 r = some (cI n1 g) ∧ ¬ sp < 0 ∧ ¬ dp < 0 ∧ ¬ n < 0 ∧ sp.toNatClampNeg + n.toNatClampNeg ≤ n0 ∧ dp.toNatClampNeg + n.toNatClampNeg ≤ n1 ∧ s' = pSet s r (cI n1 (va_cpy f g sp.toNatClampNeg dp.toNatClampNeg n.toNatClampNeg)) := by
  unfold pCp at h
  split at h
  · next n0 f n1 g e1 e2 =>
    split at h
    · cases h
    · next hn =>
      cases h
      simp only [not_or, Nat.not_lt] at hn
      exact ⟨n0, f, n1, g, e1, e2, hn.1, hn.2.1, hn.2.2.1, hn.2.2.2.1, hn.2.2.2.2, rfl⟩
  · cases h
theorem lkE_in : ∀ (l : List (Nat × pE)) (q : Nat) (e : pE), lkE l q = some e → (q, e) ∈ l := by
  intro l
  induction l with
  | nil => intro q e h; cases h
  | cons a l ih =>
    intro q e h
    obtain ⟨p, e'⟩ := a
    unfold lkE at h
    cases hp : Nat.beq p q with
    | true =>
      rw [hp] at h
      have := Nat.eq_of_beq_eq_true hp
      subst this
      cases h
      exact List.mem_cons_self
    | false =>
      rw [hp] at h
      exact List.mem_cons_of_mem _ (ih q e h)
end
section
/-! a step, operation by operation -/
section
variable {C : Nat → List Value → pS → pR} {K : Nat → List Value → List Value → pS → pR} {M pc len a b : Nat} {x : Int} {ls st : List Value} {s : pS}
theorem pS_0 : pStep C K M pc (len, 0, x, a, b) ls st s = K (pc + len) ls (.int (Int32.ofInt x) :: st) s := rfl
theorem pS_1 : pStep C K M pc (len, 1, x, a, b) ls st s = K (pc + len) ls (.long (Int64.ofInt x) :: st) s := rfl
theorem pS_2 : pStep C K M pc (len, 2, x, a, b) ls st s = tI ls[a]? fun v => K (pc + len) ls (.int v :: st) s := rfl
theorem pS_3 : pStep C K M pc (len, 3, x, a, b) ls st s = tA ls[a]? fun v => K (pc + len) ls (va_rf v :: st) s := rfl
theorem pS_4 : pStep C K M pc (len, 4, x, a, b) ls st s = tJ ls[a]? fun v => K (pc + len) ls (.long v :: st) s := rfl
theorem pS_5 : pStep C K M pc (len, 5, x, a, b) ls st s = kI st fun v r => K (pc + len) (pSt b ls a (.int v)) r s := rfl
theorem pS_6 : pStep C K M pc (len, 6, x, a, b) ls st s = kAn st fun v r => K (pc + len) (pSt b ls a (va_rf v)) r s := rfl
theorem pS_7 : pStep C K M pc (len, 7, x, a, b) ls st s = kJ st fun v r => K (pc + len) (pSt2 ls a (.long v)) r s := rfl
theorem pS_8 : pStep C K M pc (len, 8, x, a, b) ls st s = tI ls[a]? fun v => K (pc + len) (pSt b ls a (.int (v + Int32.ofInt x))) st s := rfl
theorem pS_9 : pStep C K M pc (len, 9, x, a, b) ls st s = kII st fun v w r => K (pc + len) ls (.int (ibin b v w) :: r) s := rfl
theorem pS_10 : pStep C K M pc (len, 10, x, a, b) ls st s = kII st fun v w r => if w = 0 then none else K (pc + len) ls (.int (v / w) :: r) s := rfl
theorem pS_11 : pStep C K M pc (len, 11, x, a, b) ls st s = kII st fun v w r => if w = 0 then none else K (pc + len) ls (.int (v - v / w * w) :: r) s := rfl
theorem pS_12 : pStep C K M pc (len, 12, x, a, b) ls st s = kJJ st fun v w r => K (pc + len) ls (.long (v * w) :: r) s := rfl
theorem pS_13 : pStep C K M pc (len, 13, x, a, b) ls st s = kJJ st fun v w r => if w = 0 then none else K (pc + len) ls (.long (v / w) :: r) s := rfl
theorem pS_14 : pStep C K M pc (len, 14, x, a, b) ls st s = kJJ st fun v w r => if w = 0 then none else K (pc + len) ls (.long (v - v / w * w) :: r) s := rfl
theorem pS_15 : pStep C K M pc (len, 15, x, a, b) ls st s = kI st fun v r => K (pc + len) ls (.long v.toInt64 :: r) s := rfl
theorem pS_16 : pStep C K M pc (len, 16, x, a, b) ls st s = kJ st fun v r => K (pc + len) ls (.int v.toInt32 :: r) s := rfl
theorem pS_17 : pStep C K M pc (len, 17, x, a, b) ls st s = kJJ st fun v w r => K (pc + len) ls (.int (lg_cmp v w) :: r) s := rfl
theorem pS_18 : pStep C K M pc (len, 18, x, a, b) ls st s = kV1 st fun v r => K (pc + len) ls (v :: v :: r) s := rfl
theorem pS_19 : pStep C K M pc (len, 19, x, a, b) ls st s = kIA st fun q i r => K (pc + len) ls (.int i :: .ref q :: .int i :: .ref q :: r) s := rfl
theorem pS_20 : pStep C K M pc (len, 20, x, a, b) ls st s = kV1 st fun _ r => K (pc + len) ls r s := rfl
theorem pS_21 : pStep C K M pc (len, 21, x, a, b) ls st s = K (pc + len) ls (.null :: st) s := rfl
theorem pS_22 : pStep C K M pc (len, 22, x, a, b) ls st s = K a ls st s := rfl
theorem pS_23 : pStep C K M pc (len, 23, x, a, b) ls st s = kII st fun v w r => if v = w then K a ls r s else K (pc + len) ls r s := rfl
theorem pS_24 : pStep C K M pc (len, 24, x, a, b) ls st s = kII st fun v w r => if ¬ v = w then K a ls r s else K (pc + len) ls r s := rfl
theorem pS_25 : pStep C K M pc (len, 25, x, a, b) ls st s = kII st fun v w r => if v < w then K a ls r s else K (pc + len) ls r s := rfl
theorem pS_26 : pStep C K M pc (len, 26, x, a, b) ls st s = kII st fun v w r => if w ≤ v then K a ls r s else K (pc + len) ls r s := rfl
theorem pS_27 : pStep C K M pc (len, 27, x, a, b) ls st s = kII st fun v w r => if w < v then K a ls r s else K (pc + len) ls r s := rfl
theorem pS_28 : pStep C K M pc (len, 28, x, a, b) ls st s = kII st fun v w r => if v ≤ w then K a ls r s else K (pc + len) ls r s := rfl
theorem pS_29 : pStep C K M pc (len, 29, x, a, b) ls st s = kI st fun v r => if v = 0 then K a ls r s else K (pc + len) ls r s := rfl
theorem pS_30 : pStep C K M pc (len, 30, x, a, b) ls st s = kI st fun v r => if ¬ v = 0 then K a ls r s else K (pc + len) ls r s := rfl
theorem pS_31 : pStep C K M pc (len, 31, x, a, b) ls st s = kI st fun v r => if v < 0 then K a ls r s else K (pc + len) ls r s := rfl
theorem pS_32 : pStep C K M pc (len, 32, x, a, b) ls st s = kI st fun v r => if 0 ≤ v then K a ls r s else K (pc + len) ls r s := rfl
theorem pS_33 : pStep C K M pc (len, 33, x, a, b) ls st s = kI st fun v r => if 0 < v then K a ls r s else K (pc + len) ls r s := rfl
theorem pS_34 : pStep C K M pc (len, 34, x, a, b) ls st s = kI st fun v r => if v ≤ 0 then K a ls r s else K (pc + len) ls r s := rfl
theorem pS_35 : pStep C K M pc (len, 35, x, a, b) ls st s = kAn st fun v r => (match v with | none => K a ls r s | some _ => K (pc + len) ls r s) := rfl
theorem pS_36 : pStep C K M pc (len, 36, x, a, b) ls st s = kAn st fun v r => (match v with | none => K (pc + len) ls r s | some _ => K a ls r s) := rfl
theorem pS_37 : pStep C K M pc (len, 37, x, a, b) ls st s = kI st fun v r => (match pSw[a]? with | some w => kSw w.1 w.2 v (fun t => K t ls r s) | none => none) := rfl
theorem pS_38 : pStep C K M pc (len, 38, x, a, b) ls st s = kA st fun q r => (gFi s q a b).bind fun v => K (pc + len) ls (.int v :: r) s := rfl
theorem pS_39 : pStep C K M pc (len, 39, x, a, b) ls st s = kA st fun q r => (gFr s q a b).bind fun v => K (pc + len) ls (.ref v :: r) s := rfl
theorem pS_40 : pStep C K M pc (len, 40, x, a, b) ls st s = kA st fun q r => (gFv s q a b).bind fun v => oN v (K (pc + len) ls (.null :: r) s) (fun w => K (pc + len) ls (.ref w :: r) s) := rfl
theorem pS_41 : pStep C K M pc (len, 41, x, a, b) ls st s = kI st fun v r => kA r fun q r => (pF s q a b (.int v)).bind fun s' => K (pc + len) ls r s' := rfl
theorem pS_42 : pStep C K M pc (len, 42, x, a, b) ls st s = kAn st fun v r => kA r fun q r => (pF s q a b (va_rf v)).bind fun s' => K (pc + len) ls r s' := rfl
theorem pS_43 : pStep C K M pc (len, 43, x, a, b) ls st s = kIA st fun q i r => (gI s q i).bind fun v => K (pc + len) ls (.int v :: r) s := rfl
theorem pS_44 : pStep C K M pc (len, 44, x, a, b) ls st s = kIIA st fun q i v r => (pI s q i v).bind fun s' => K (pc + len) ls r s' := rfl
theorem pS_45 : pStep C K M pc (len, 45, x, a, b) ls st s = kIA st fun q i r => (gL s q i).bind fun v => K (pc + len) ls (.long v :: r) s := rfl
theorem pS_46 : pStep C K M pc (len, 46, x, a, b) ls st s = kJIA st fun q i v r => (pL s q i v).bind fun s' => K (pc + len) ls r s' := rfl
theorem pS_47 : pStep C K M pc (len, 47, x, a, b) ls st s = kIA st fun q i r => (gQ s q i).bind fun v => oN v (K (pc + len) ls (.null :: r) s) (fun w => K (pc + len) ls (.ref w :: r) s) := rfl
theorem pS_48 : pStep C K M pc (len, 48, x, a, b) ls st s = kAIA st fun q i v r => (pQ s q i v).bind fun s' => K (pc + len) ls r s' := rfl
theorem pS_49 : pStep C K M pc (len, 49, x, a, b) ls st s = kA st fun q r => (gN s q).bind fun v => K (pc + len) ls (.int v :: r) s := rfl
theorem pS_50 : pStep C K M pc (len, 50, x, a, b) ls st s = kI st fun v r => if v < 0 ∨ 100000 < v.toNatClampNeg then none else K (pc + len) ls (.ref s.1 :: r) (pNew s (cI v.toNatClampNeg (fun _ => 0)) v.toNatClampNeg) := rfl
theorem pS_51 : pStep C K M pc (len, 51, x, a, b) ls st s = kI st fun v r => if v < 0 ∨ 100000 < v.toNatClampNeg then none else K (pc + len) ls (.ref s.1 :: r) (pNew s (cL v.toNatClampNeg (fun _ => 0)) v.toNatClampNeg) := rfl
theorem pS_52 : pStep C K M pc (len, 52, x, a, b) ls st s = kI st fun v r => if v < 0 ∨ 100000 < v.toNatClampNeg then none else K (pc + len) ls (.ref s.1 :: r) (pNew s (cQ v.toNatClampNeg (fun _ => none)) v.toNatClampNeg) := rfl
theorem pS_53 : pStep C K M pc (len, 53, x, a, b) ls st s = K (pc + len) ls (.ref s.1 :: st) (pNew s (cO a (pD0.getD a [])) b) := rfl
theorem pS_54 : pStep C K M pc (len, 54, x, a, b) ls st s = bif stW st then some (.inr (a, s.1), pEx s) else none := rfl
theorem pS_55 : pStep C K M pc (len, 55, x, a, b) ls st s = pCall (fun M' as s' => bif rcv M' as s' then C M' as s' else none) K (pX K M pc ls) M pc len x a b ls st s := rfl
theorem pS_56 : pStep C K M pc (len, 56, x, a, b) ls st s = pCall C K nX M pc len x a b ls st s := rfl
theorem pS_57 : pStep C K M pc (len, 57, x, a, b) ls st s = pCall (fun M' as s' => bif rcv M' as s' then C M' as s' else none) K nX M pc len x a b ls st s := rfl
theorem pS_58 : pStep C K M pc (len, 58, x, a, b) ls st s = kA st fun _ r => bif stW r then K (pc + len) ls r s else none := rfl
theorem pS_59 : pStep C K M pc (len, 59, x, a, b) ls st s = kII st fun dp n r => kA r fun q1 r => kIA r fun q0 sp r => bif stW r then (pCp s q0 sp q1 dp n).bind fun s' => K (pc + len) ls r s' else none := rfl
theorem pS_60 : pStep C K M pc (len, 60, x, a, b) ls st s = kA st fun q r => bif stW r then (sLen pStr q).bind fun v => K (pc + len) ls (.int v :: r) s else none := rfl
theorem pS_61 : pStep C K M pc (len, 61, x, a, b) ls st s = kIA st fun q i r => bif stW r then (sAt pStr q i).bind fun v => K (pc + len) ls (.int v :: r) s else none := rfl
theorem pS_62 : pStep C K M pc (len, 62, x, a, b) ls st s = kI st fun v r => (match r with | [] => some (.inl (some (.int v)), s) | _ => none) := rfl
theorem pS_63 : pStep C K M pc (len, 63, x, a, b) ls st s = kJ st fun v r => (match r with | [] => some (.inl (some (.long v)), s) | _ => none) := rfl
theorem pS_64 : pStep C K M pc (len, 64, x, a, b) ls st s = kA st fun v r => (match r with | [] => some (.inl (some (.ref v)), s) | _ => none) := rfl
theorem pS_65 : pStep C K M pc (len, 65, x, a, b) ls st s = (match st with | [] => some (.inl none, s) | _ => none) := rfl
theorem pS_66 : pStep C K M pc (len, 66, x, a, b) ls st s = kI st fun v r => (match r with | [] => if v &&& 1 = v then some (.inl (some (.int v)), s) else none | _ => none) := rfl
theorem pS_67 : pStep C K M pc (len, 67, x, a, b) ls st s = K (pc + len) ls (.ref (pSB + a) :: st) s := rfl
theorem pS_68 : pStep C K M pc (len, 68, x, a, b) ls st s = kII st fun v w r => bif stW r then K (pc + len) ls (.int (if v < w then w else v) :: r) s else none := rfl
theorem pS_69 : pStep C K M pc (len, 69, x, a, b) ls st s = kII st fun v w r => bif stW r then K (pc + len) ls (.int (if w < v then w else v) :: r) s else none := rfl
theorem pS_70 : pStep C K M pc (len, 70, x, a, b) ls st s = kJJ st fun v w r => bif stW r then K (pc + len) ls (.long (if w < v then w else v) :: r) s else none := rfl
end
end
section
/-! THE SURROUNDINGS of the run -/
/-- the constructors above the exceptions -/
def xDl : List MethodName := [Bundle.init0 "java/lang/RuntimeException", Bundle.init0 "java/lang/Exception", Bundle.init0 Bundle.tN]
def EF (E : pEnv) (A : Nat → Prop) (U : State) (H : Heap) : Prop :=
  (vx_Zq Bundle.tN "UNASSIGNED_STACK" Bundle.steD A U H ∧ vx_Zq Bundle.tN "SUPPRESSED_SENTINEL" Bundle.listD A U H ∧ ∀ y ∈ xDl, va_Nw (.declares y) U) ∧
  (∀ (i : Nat) (r : Nat × Nat), SKs[i]? = some r → vk_R (oS r.1) r.2 (sTx.getD i "") (E.1 i) U) ∧
  (∀ i, i < 39 → va_O "java/lang/String" (E.1 i) A U H ∧ va_OF "java/lang/String" "coder" "B" (.int 0) (E.1 i) A U H ∧ va_OF "java/lang/String" "value" "[B" (.ref (E.2.1 i)) (E.1 i) A U H ∧ va_T .byte (E.2.1 i) ((pStr.getD i []).length) (fun j => .int ((pStr.getD i []).getD j 0)) A U H) ∧
  va_Z "java/lang/String" "COMPACT_STRINGS" "Z" (.int 1) A U H ∧ va_Zq "jdk/internal/util/Preconditions" "SIOOBE_FORMATTER" "Ljava/util/function/BiFunction;" A U H ∧
  ((∀ r ∈ MNs, va_Nw (nW r) U) ∧ va_Nw fN U ∧ va_AO "StillYear$Moment" U) ∧
  ((∀ k, k < 2 → va_Nw (.castable (eC k) (eC k)) U) ∧ va_Nc (eC 0) (eC 1) U ∧ va_Nc (eC 1) (eC 0) U) ∧
  (va_X E.2.2.1 E.2.2.2.1 E.2.2.2.2 U H ∧ E.2.2.1 < H.size ∧ ¬ A E.2.2.1)
theorem va_Nc.mv {C T : String} {u U : State} (hvm : u.vm.Alike U.vm) (h : va_Nc C T u) : va_Nc C T U := by
  obtain ⟨c, t, h1, h2, h3⟩ := h
  exact ⟨c, t, by rw [hvm.findClass]; exact h1, by rw [hvm.findClass]; exact h2, by rw [hvm.assignable]; exact h3⟩
theorem EF.warm {E : pEnv} {A : Nat → Prop} {s U : State} {H : Heap} (hW : s.WarmedH U.vm) (h : EF E A s H) : EF E A U H := by
  obtain ⟨⟨h1, h2, h2b⟩, h3, h4, h5, h5b, ⟨h6, h7, h8⟩, ⟨h9, h10, h11⟩, h12, h13, h14⟩ := h
  have ha := hW.alike
  refine ⟨⟨h1.moved ha, h2.moved ha, fun y hy => va_Nw.warmD hW (h2b y hy)⟩, fun i r hr => (h3 i r hr).warm hW, fun i hi => ⟨va_O.moved ha (h4 i hi).1, va_OF.moved ha (h4 i hi).2.1, va_OF.moved ha (h4 i hi).2.2.1, va_T.moved ha (h4 i hi).2.2.2⟩, va_Z.moved ha h5, va_Zq.moved ha h5b, ⟨fun r hr => va_Nw.warmM hW (h6 r hr), va_Nw.warmF hW h7, va_AO.moved ha h8⟩, ⟨fun k hk => va_Nw.warmC hW (h9 k hk), va_Nc.mv ha h10, va_Nc.mv ha h11⟩, va_X.moved ha h12, h13, h14⟩
theorem EF.kept {E : pEnv} {A : Nat → Prop} {U : State} {H H1 : Heap} (hz : H.size ≤ H1.size) (hq : ∀ a : Nat, a < H.size → ¬ A a → H1[a]? = H[a]?) (h : EF E A U H) : EF E A U H1 := by
  obtain ⟨⟨h1, h2, h2b⟩, h3, h4, h5, h5b, h6, h9, h12, h13, h14⟩ := h
  refine ⟨⟨h1.kept hq, h2.kept hq, h2b⟩, h3, fun i hi => ⟨(h4 i hi).1.kept hq, (h4 i hi).2.1.kept hq, (h4 i hi).2.2.1.kept hq, (h4 i hi).2.2.2.kept hq⟩, h5.kept hq, h5b.kept hq, h6, h9, h12.kept (hq _ h13 h14), Nat.lt_of_lt_of_le h13 hz, h14⟩
theorem EF.narrow {E : pEnv} {A B : Nat → Prop} {U : State} {H : Heap} (h : EF E A U H) (hAB : ∀ q, B q → A q) : EF E B U H := by
  obtain ⟨⟨h1, h2, h2b⟩, h3, h4, h5, h5b, h6, h9, h12, h13, h14⟩ := h
  refine ⟨⟨h1.narrow hAB, h2.narrow hAB, h2b⟩, h3, fun i hi => ⟨(h4 i hi).1.narrow hAB, (h4 i hi).2.1.narrow hAB, (h4 i hi).2.2.1.narrow hAB, (h4 i hi).2.2.2.narrow hAB⟩, h5.narrow hAB, h5b.narrow hAB, h6, h9, h12, h13, fun hb => h14 (hAB _ hb)⟩
end
section
/-! ONE INSTRUCTION OF THE MACHINE for one step of the pure one -/
def Cx (M : Nat) (p : Program) (s : State) (m : MethodId) (args : Array Value) (meth : Method) (c : Code) : Prop :=
  p.tables.exec = Jvm.exec ∧ c.code = mB M ∧ meth.sig.returnType = mT M ∧ meth.locks = false ∧ c.maxLocals = mxL M ∧ s.vm.findClass (oS (mO M)) = some m.cls ∧ (∀ w ∈ wT, w.before args s = true) ∧ (mK M = 2 → meth.name = "<init>") ∧ (mK M = 3 → c.exceptionTable.toList = tableOf (mH M))
def Wd (D : va_G) (E : pEnv) (A : Nat → Prop) (as : Nat → Nat) (S : pS) (U : State) (H : Heap) : Prop := ∃ (tys : List (ClassId × FieldType)) (ws : va_W), va_K D vwCl tys U ∧ va_P D vwCl ws H ∧ va_D A ws ∧ HR as S tys ws ∧ AsE E as S
def Ct (l : Launch) (D : va_G) (E : pEnv) (M : Nat) (p : Program) (e : Env) (R : Room) (s : State) (m : MethodId) (args : Array Value) (below : List Frame) (meth : Method) (c : Code) (A : Nat → Prop) (n0 sl0 : Nat) (Q : State → Prop) (K : Nat → List Value → List Value → pS → pR) (z : pO × pS) (as : Nat → Nat) (S : pS) : Prop :=
  ∀ (pc' : Nat) (ls' : List Value) (mls' : Array Slot) (st' : List Value) (S1 : pS) (as1 : Nat → Nat) (H1 : Heap) (locs1 : List Loc), K pc' ls' st' S1 = some z → (∀ r, okR S.1 r → as1 r = as r) → Wd D E A as1 S1 s H1 → va_S A s.heap H1 locs1 → LV (mJ M) as1 mls' (mxL M) ls' → okL S1.1 ls' → okL S1.1 st' → S.1 ≤ S1.1 → S.2.1 ≤ S1.2.1 → W p l e R s m args below meth c H1 locs1 (S1.1 - n0) (S1.2.1 - sl0) Q (F0 m pc' mls' (st'.map (rv as1)))
def dfl (l : List Value) : Bool := l.all fun v => decide (v = .int 0) || decide (v = .null)
theorem dfl_i {l : List Value} (h : dfl l = true) (as : Nat → Nat) (n : Nat) : l.map (rv as) = l ∧ okL n l := by
  have h1 : ∀ v ∈ l, v = .int 0 ∨ v = .null := by
    intro v hv
    have := List.all_eq_true.mp h v hv
    simpa using this
  refine ⟨?_, fun v hv => by rcases h1 v hv with rfl | rfl <;> trivial⟩
  conv => rhs; rw [← List.map_id l]
  exact List.map_congr_left fun v hv => by rcases h1 v hv with rfl | rfl <;> rfl
set_option maxRecDepth 10000 in
theorem clF : ∀ a, a < 12 → ∃ (C : String) (T : u_T) (N : Nat) (ty : Nat → FieldType), vwCl[a]? = some (C, T, N) ∧ (∀ w ∈ u_ws C T N, w ∈ wT) ∧ (∀ k, k < N → parseFieldDescriptor (T k).2.2.1 = some (ty k)) ∧ (∀ i, i < N → ∀ j, j < N → i ≠ j → (T i).2.1 ≠ (T j).2.1) ∧ (∀ j, j < N → defaultValue (ty j) = vp_V (pD0.getD a []) j) ∧ dfl (pD0.getD a []) = true := by
  intro a ha
  match a, ha with
  | 0, _ => exact ⟨RX0, TX0, 3, tyX0, rfl, wU_0, tyX0_ok, nmX0, by decide +kernel, by decide +kernel⟩
  | 1, _ => exact ⟨RX1, TX1, 4, tyX1, rfl, wU_1, tyX1_ok, nmX1, by decide +kernel, by decide +kernel⟩
  | 2, _ => exact ⟨RX2, TX2, 3, tyX2, rfl, wU_2, tyX2_ok, nmX2, by decide +kernel, by decide +kernel⟩
  | 3, _ => exact ⟨RX3, TX3, 5, tyX3, rfl, wU_3, tyX3_ok, nmX3, by decide +kernel, by decide +kernel⟩
  | 4, _ => exact ⟨RX4, TX4, 4, tyX4, rfl, wU_4, tyX4_ok, nmX4, by decide +kernel, by decide +kernel⟩
  | 5, _ => exact ⟨RX5, TX5, 8, tyX5, rfl, wU_5, tyX5_ok, nmX5, by decide +kernel, by decide +kernel⟩
  | 6, _ => exact ⟨RX6, TX6, 1, tyX6, rfl, wU_6, tyX6_ok, nmX6, by decide +kernel, by decide +kernel⟩
  | 7, _ => exact ⟨RX7, TX7, 9, tyX7, rfl, wU_7, tyX7_ok, nmX7, by decide +kernel, by decide +kernel⟩
  | 8, _ => exact ⟨RX8, TX8, 7, tyX8, rfl, wU_8, tyX8_ok, nmX8, by decide +kernel, by decide +kernel⟩
  | 9, _ => exact ⟨RX9, TX9, 9, tyX9, rfl, wU_9, tyX9_ok, nmX9, by decide +kernel, by decide +kernel⟩
  | 10, _ => exact ⟨RX10, TX10, 14, tyX10, rfl, wU_10, tyX10_ok, nmX10, by decide +kernel, by decide +kernel⟩
  | 11, _ => exact ⟨RX11, TX11, 55, tyX11, rfl, wU_11, tyX11_ok, nmX11, by decide +kernel, by decide +kernel⟩
  | n + 12, h => exact absurd h (by omega)
theorem fN_of {a : Nat} {C : String} {T : u_T} {N : Nat} (h : vwCl[a]? = some (C, T, N)) : fN_ a = N := by simp [fN_, h]
theorem fTy_of {a k : Nat} {C : String} {T : u_T} {N : Nat} (h : vwCl[a]? = some (C, T, N)) : fTy a k = parseFieldDescriptor (T k).2.2.1 := by simp [fTy, h]
theorem fFin_of {a k : Nat} {C : String} {T : u_T} {N : Nat} (h : vwCl[a]? = some (C, T, N)) : fFin a k = (T k).2.2.2 := by simp [fFin, h]
theorem fDc_of {a k : Nat} {C : String} {T : u_T} {N : Nat} (h : vwCl[a]? = some (C, T, N)) : fDc a k = (T k).1 := by simp [fDc, h]
theorem fW_of {o i a k : Nat} {C : String} {T : u_T} {N : Nat} (h : vwCl[a]? = some (C, T, N)) : fW (o, i, a, k) = .fieldLink (oS o) i (T k).1 (T k).2.1 (T k).2.2.1 := by simp [fW, h]
section
variable {p : Program} {l : Launch} {e : Env} {R : Room} {s : State} {m : MethodId} {args : Array Value} {below : List Frame} {meth : Method} {c : Code} {H : Heap} {locs : List Loc} {cells slots : Nat} {Q : State → Prop}
/-- a text by a wide index -/
theorem my_ldcwS {cc : ByteArray} {pc : Nat} {ls : Array Slot} {rest : List Value} (hexec : p.tables.exec = Jvm.exec) (hb : c.code = cc) {own tx : String} {index q : Nat} (hown : s.vm.findClass own = some m.cls) (hZ : vk_R own index tx q s) (hdg : decode cc pc = .ok (.ldc_w index, 3))
    (k : W p l e R s m args below meth c H locs cells slots Q (F0 m (pc + 3) ls (.ref q :: rest))) : W p l e R s m args below meth c H locs cells slots Q (F0 m pc ls rest) := by
  intro T hT X
  obtain ⟨t, a1, b1⟩ := k T hT X
  refine ⟨t, ?_, b1⟩
  obtain ⟨kc, cf, i, a', hk, hcf, hcp, -, hr, hev'⟩ := Cond.stringRef_spec hown hZ.1
  cases hZ.2.symm.trans hev'
  obtain ⟨k', hk', he⟩ := X.warmed.alike.2.2 _ _ hk
  have hr' : k'.resolved[index]? = some (some (.string q)) := by
    rcases X.warmed.entry hk hk' index with h | ⟨h, -⟩
    · rw [h]; exact hr
    · rw [hr] at h; cases h
  subst hb
  jvm_step X.here [hexec, hdg, ldc_w.wp_string (e := e) (s := T) (f := F0 m pc ls rest) X.here.top hk' (by rw [he]; exact hcf) hcp hr']
  exact a1
end
theorem i32_of {v : Int32} {n : Int} (h1 : -1000000 ≤ n) (h2 : n ≤ 1000000) : v = Int32.ofInt n ↔ v.toInt = n := by
  constructor
  · intro h
    rw [h, Int32.toInt_ofInt_of_le (by omega) (by omega)]
  · intro h
    apply Int32.toInt_inj.mp
    rw [h, Int32.toInt_ofInt_of_le (by omega) (by omega)]
theorem kSw_t {F : Nat → pR} {z : pO × pS} {v : Int32} {pc d : Nat} : ∀ (l : List Int) (lo : Int), -1000000 ≤ lo → lo + (l.length : Int) ≤ 1000000 → kSw (swT l pc lo) d v F = some z → (∃ (j : Nat) (y : Int), l[j]? = some y ∧ v.toInt = lo + (j : Int) ∧ F ((pc : Int) + y).toNat = some z) ∨ ((v.toInt < lo ∨ lo + (l.length : Int) ≤ v.toInt) ∧ F d = some z) := by
  intro l
  induction l with
  | nil =>
    intro lo h1 h2 h
    refine Or.inr ⟨?_, h⟩
    simp only [List.length_nil]
    omega
  | cons y l ih =>
    intro lo h1 h2 h
    simp only [List.length_cons] at h2
    unfold swT kSw at h
    by_cases hv : v = Int32.ofInt lo
    · rw [if_pos hv] at h
      exact Or.inl ⟨0, y, rfl, by rw [(i32_of (by omega) (by omega)).mp hv]; omega, h⟩
    · rw [if_neg hv] at h
      have hv2 : v.toInt ≠ lo := fun e => hv ((i32_of (by omega) (by omega)).mpr e)
      rcases ih (lo + 1) (by omega) (by omega) h with ⟨j, y2, g1, g2, g3⟩ | ⟨g1, g2⟩
      · exact Or.inl ⟨j + 1, y2, g1, by rw [g2]; omega, g3⟩
      · refine Or.inr ⟨?_, g2⟩
        simp only [List.length_cons]
        omega
theorem kSw_l {F : Nat → pR} {z : pO × pS} {v : Int32} {pc : Nat} {dd : Int} : ∀ (l : List (Int × Int)), (∀ q ∈ l, -1000000 < q.1 ∧ q.1 < 1000000) → kSw (l.map (fun q => (Int32.ofInt q.1, ((pc : Int) + q.2).toNat))) ((pc : Int) + dd).toNat v F = some z → F ((pc : Int) + Op.lookupswitch.offset l dd v.toInt).toNat = some z := by
  intro l
  induction l with
  | nil => intro _ h; exact h
  | cons q l ih =>
    intro hq h
    obtain ⟨k, o⟩ := q
    have hb := hq (k, o) List.mem_cons_self
    rw [Op.lookupswitch.offset_cons]
    simp only [List.map_cons] at h
    unfold kSw at h
    by_cases hv : v = Int32.ofInt k
    · rw [if_pos hv] at h
      rw [if_pos ((i32_of (by omega) (by omega)).mp hv).symm]
      exact h
    · rw [if_neg hv] at h
      rw [if_neg (fun e => hv ((i32_of (by omega) (by omega)).mpr e.symm))]
      exact ih (fun q hq' => hq q (List.mem_cons_of_mem _ hq')) h
theorem off_in {dd k : Int} : ∀ (l : List (Int × Int)), Op.lookupswitch.offset l dd k = dd ∨ ∃ q ∈ l, Op.lookupswitch.offset l dd k = q.2 := by
  intro l
  induction l with
  | nil => exact Or.inl rfl
  | cons q l ih =>
    obtain ⟨a, o⟩ := q
    rw [Op.lookupswitch.offset_cons]
    by_cases h : a = k
    · rw [if_pos h]
      exact Or.inr ⟨(a, o), List.mem_cons_self, rfl⟩
    · rw [if_neg h]
      rcases ih with h1 | ⟨q, hq, h1⟩
      · exact Or.inl h1
      · exact Or.inr ⟨q, List.mem_cons_of_mem _ hq, h1⟩
set_option maxHeartbeats 4000000 in
set_option maxRecDepth 10000 in
theorem stepA {l : Launch} {D : va_G} {E : pEnv} {M : Nat} {p : Program} {e : Env} {R : Room} {s : State} {m : MethodId} {args : Array Value} {below : List Frame} {meth : Method} {c : Code} {A : Nat → Prop} {n0 sl0 : Nat} {Q : State → Prop} {C : Nat → List Value → pS → pR} {K : Nat → List Value → List Value → pS → pR} {z : pO × pS} {as : Nat → Nat} {S : pS} {pc len op : Nat} {x : Int} {a b : Nat} {i : Instr} {ls st : List Value} {H : Heap} {locs : List Loc} {mls : Array Slot}
    (cx : Cx M p s m args meth c) (hE : EF E A s s.heap) (hA : ∀ q, s.heap.size ≤ q → A q) (hW : Wd D E A as S s H) (hS : va_S A s.heap H locs) (hL : LV (mJ M) as mls (mxL M) ls) (hls : okL S.1 ls) (hst : okL S.1 st) (hn0 : n0 ≤ S.1) (hsl0 : sl0 ≤ S.2.1)
    (hd : decode (mB M) pc = .ok (i, len)) (hlen : ilen i len = true) (hok : okI M pc op x a b i = true) (hop : op < 38 ∨ op = 67) (h : pStep C K M pc (len, op, x, a, b) ls st S = some z) (ct : Ct l D E M p e R s m args below meth c A n0 sl0 Q K z as S) :
    W p l e R s m args below meth c H locs (S.1 - n0) (S.2.1 - sl0) Q (F0 m pc mls (st.map (rv as))) := by
  obtain ⟨hx, hb, hr, hlk, hml, hown, hts, hin, htb⟩ := cx
  have go : ∀ (pc' : Nat) (st' : List Value), K pc' ls st' S = some z → okL S.1 st' → W p l e R s m args below meth c H locs (S.1 - n0) (S.2.1 - sl0) Q (F0 m pc' mls (st'.map (rv as))) := fun pc' st' hk ho => ct pc' ls mls st' S as H locs hk (fun _ _ => rfl) hW hS hL hls ho (Nat.le_refl _) (Nat.le_refl _)
  have goL : ∀ (pc' : Nat) (ls' : List Value) (mls' : Array Slot) (st' : List Value), K pc' ls' st' S = some z → LV (mJ M) as mls' (mxL M) ls' → okL S.1 ls' → okL S.1 st' → W p l e R s m args below meth c H locs (S.1 - n0) (S.2.1 - sl0) Q (F0 m pc' mls' (st'.map (rv as))) := fun pc' ls' mls' st' hk hL' hls' ho => ct pc' ls' mls' st' S as H locs hk (fun _ _ => rfl) hW hS hL' hls' ho (Nat.le_refl _) (Nat.le_refl _)
  cases i
  case iconst v =>
    simp only [ilen, Nat.beq_eq] at hlen
    simp only [okI, Bool.and_eq_true, Bool.or_eq_true, Nat.beq_eq, Nat.blt_eq, Nat.ble_eq, decide_eq_true_eq, beq_iff_eq] at hok
    obtain ⟨rfl, rfl⟩ := hok
    subst hlen
    (first | rw [pS_0] at h | rw [pS_1] at h | rw [pS_2] at h | rw [pS_3] at h | rw [pS_4] at h | rw [pS_5] at h | rw [pS_6] at h | rw [pS_7] at h | rw [pS_8] at h | rw [pS_9] at h | rw [pS_10] at h | rw [pS_11] at h | rw [pS_12] at h | rw [pS_13] at h | rw [pS_14] at h | rw [pS_15] at h | rw [pS_16] at h | rw [pS_17] at h | rw [pS_18] at h | rw [pS_19] at h | rw [pS_20] at h | rw [pS_21] at h | rw [pS_22] at h | rw [pS_23] at h | rw [pS_24] at h | rw [pS_25] at h | rw [pS_26] at h | rw [pS_27] at h | rw [pS_28] at h | rw [pS_29] at h | rw [pS_30] at h | rw [pS_31] at h | rw [pS_32] at h | rw [pS_33] at h | rw [pS_34] at h | rw [pS_35] at h | rw [pS_36] at h | rw [pS_37] at h | rw [pS_38] at h | rw [pS_39] at h | rw [pS_40] at h | rw [pS_41] at h | rw [pS_42] at h | rw [pS_43] at h | rw [pS_44] at h | rw [pS_45] at h | rw [pS_46] at h | rw [pS_47] at h | rw [pS_48] at h | rw [pS_49] at h | rw [pS_50] at h | rw [pS_51] at h | rw [pS_52] at h | rw [pS_53] at h | rw [pS_54] at h | rw [pS_55] at h | rw [pS_56] at h | rw [pS_57] at h | rw [pS_58] at h | rw [pS_59] at h | rw [pS_60] at h | rw [pS_61] at h | rw [pS_62] at h | rw [pS_63] at h | rw [pS_64] at h | rw [pS_65] at h | rw [pS_66] at h | rw [pS_67] at h)
    exact lv_iconst hx hb hd rfl (go _ _ h (okL_c.mpr ⟨trivial, hst⟩))
  case bipush v =>
    simp only [ilen, Nat.beq_eq] at hlen
    simp only [okI, Bool.and_eq_true, Bool.or_eq_true, Nat.beq_eq, Nat.blt_eq, Nat.ble_eq, decide_eq_true_eq, beq_iff_eq] at hok
    obtain ⟨rfl, hv⟩ := hok
    subst hlen
    (first | rw [pS_0] at h | rw [pS_1] at h | rw [pS_2] at h | rw [pS_3] at h | rw [pS_4] at h | rw [pS_5] at h | rw [pS_6] at h | rw [pS_7] at h | rw [pS_8] at h | rw [pS_9] at h | rw [pS_10] at h | rw [pS_11] at h | rw [pS_12] at h | rw [pS_13] at h | rw [pS_14] at h | rw [pS_15] at h | rw [pS_16] at h | rw [pS_17] at h | rw [pS_18] at h | rw [pS_19] at h | rw [pS_20] at h | rw [pS_21] at h | rw [pS_22] at h | rw [pS_23] at h | rw [pS_24] at h | rw [pS_25] at h | rw [pS_26] at h | rw [pS_27] at h | rw [pS_28] at h | rw [pS_29] at h | rw [pS_30] at h | rw [pS_31] at h | rw [pS_32] at h | rw [pS_33] at h | rw [pS_34] at h | rw [pS_35] at h | rw [pS_36] at h | rw [pS_37] at h | rw [pS_38] at h | rw [pS_39] at h | rw [pS_40] at h | rw [pS_41] at h | rw [pS_42] at h | rw [pS_43] at h | rw [pS_44] at h | rw [pS_45] at h | rw [pS_46] at h | rw [pS_47] at h | rw [pS_48] at h | rw [pS_49] at h | rw [pS_50] at h | rw [pS_51] at h | rw [pS_52] at h | rw [pS_53] at h | rw [pS_54] at h | rw [pS_55] at h | rw [pS_56] at h | rw [pS_57] at h | rw [pS_58] at h | rw [pS_59] at h | rw [pS_60] at h | rw [pS_61] at h | rw [pS_62] at h | rw [pS_63] at h | rw [pS_64] at h | rw [pS_65] at h | rw [pS_66] at h | rw [pS_67] at h)
    exact lv_bipush hx hb hd hv.symm (go _ _ h (okL_c.mpr ⟨trivial, hst⟩))
  case sipush v =>
    simp only [ilen, Nat.beq_eq] at hlen
    simp only [okI, Bool.and_eq_true, Bool.or_eq_true, Nat.beq_eq, Nat.blt_eq, Nat.ble_eq, decide_eq_true_eq, beq_iff_eq] at hok
    obtain ⟨rfl, hv⟩ := hok
    subst hlen
    (first | rw [pS_0] at h | rw [pS_1] at h | rw [pS_2] at h | rw [pS_3] at h | rw [pS_4] at h | rw [pS_5] at h | rw [pS_6] at h | rw [pS_7] at h | rw [pS_8] at h | rw [pS_9] at h | rw [pS_10] at h | rw [pS_11] at h | rw [pS_12] at h | rw [pS_13] at h | rw [pS_14] at h | rw [pS_15] at h | rw [pS_16] at h | rw [pS_17] at h | rw [pS_18] at h | rw [pS_19] at h | rw [pS_20] at h | rw [pS_21] at h | rw [pS_22] at h | rw [pS_23] at h | rw [pS_24] at h | rw [pS_25] at h | rw [pS_26] at h | rw [pS_27] at h | rw [pS_28] at h | rw [pS_29] at h | rw [pS_30] at h | rw [pS_31] at h | rw [pS_32] at h | rw [pS_33] at h | rw [pS_34] at h | rw [pS_35] at h | rw [pS_36] at h | rw [pS_37] at h | rw [pS_38] at h | rw [pS_39] at h | rw [pS_40] at h | rw [pS_41] at h | rw [pS_42] at h | rw [pS_43] at h | rw [pS_44] at h | rw [pS_45] at h | rw [pS_46] at h | rw [pS_47] at h | rw [pS_48] at h | rw [pS_49] at h | rw [pS_50] at h | rw [pS_51] at h | rw [pS_52] at h | rw [pS_53] at h | rw [pS_54] at h | rw [pS_55] at h | rw [pS_56] at h | rw [pS_57] at h | rw [pS_58] at h | rw [pS_59] at h | rw [pS_60] at h | rw [pS_61] at h | rw [pS_62] at h | rw [pS_63] at h | rw [pS_64] at h | rw [pS_65] at h | rw [pS_66] at h | rw [pS_67] at h)
    exact lv_sipush hx hb hd hv.symm (go _ _ h (okL_c.mpr ⟨trivial, hst⟩))
  case ldc k =>
    simp only [ilen, Nat.beq_eq] at hlen
    simp only [okI, Bool.and_eq_true, Bool.or_eq_true, Nat.beq_eq, Nat.blt_eq, Nat.ble_eq, decide_eq_true_eq, beq_iff_eq] at hok
    subst hlen
    rcases hok with ⟨rfl, hv⟩ | ⟨rfl, hv⟩
    · (first | rw [pS_0] at h | rw [pS_1] at h | rw [pS_2] at h | rw [pS_3] at h | rw [pS_4] at h | rw [pS_5] at h | rw [pS_6] at h | rw [pS_7] at h | rw [pS_8] at h | rw [pS_9] at h | rw [pS_10] at h | rw [pS_11] at h | rw [pS_12] at h | rw [pS_13] at h | rw [pS_14] at h | rw [pS_15] at h | rw [pS_16] at h | rw [pS_17] at h | rw [pS_18] at h | rw [pS_19] at h | rw [pS_20] at h | rw [pS_21] at h | rw [pS_22] at h | rw [pS_23] at h | rw [pS_24] at h | rw [pS_25] at h | rw [pS_26] at h | rw [pS_27] at h | rw [pS_28] at h | rw [pS_29] at h | rw [pS_30] at h | rw [pS_31] at h | rw [pS_32] at h | rw [pS_33] at h | rw [pS_34] at h | rw [pS_35] at h | rw [pS_36] at h | rw [pS_37] at h | rw [pS_38] at h | rw [pS_39] at h | rw [pS_40] at h | rw [pS_41] at h | rw [pS_42] at h | rw [pS_43] at h | rw [pS_44] at h | rw [pS_45] at h | rw [pS_46] at h | rw [pS_47] at h | rw [pS_48] at h | rw [pS_49] at h | rw [pS_50] at h | rw [pS_51] at h | rw [pS_52] at h | rw [pS_53] at h | rw [pS_54] at h | rw [pS_55] at h | rw [pS_56] at h | rw [pS_57] at h | rw [pS_58] at h | rw [pS_59] at h | rw [pS_60] at h | rw [pS_61] at h | rw [pS_62] at h | rw [pS_63] at h | rw [pS_64] at h | rw [pS_65] at h | rw [pS_66] at h | rw [pS_67] at h)
      exact lv_ldc hx hb hown (hts _ (CK_ok _ (List.contains_iff_mem.mp hv))) hd (go _ _ h (okL_c.mpr ⟨trivial, hst⟩))
    · (first | rw [pS_0] at h | rw [pS_1] at h | rw [pS_2] at h | rw [pS_3] at h | rw [pS_4] at h | rw [pS_5] at h | rw [pS_6] at h | rw [pS_7] at h | rw [pS_8] at h | rw [pS_9] at h | rw [pS_10] at h | rw [pS_11] at h | rw [pS_12] at h | rw [pS_13] at h | rw [pS_14] at h | rw [pS_15] at h | rw [pS_16] at h | rw [pS_17] at h | rw [pS_18] at h | rw [pS_19] at h | rw [pS_20] at h | rw [pS_21] at h | rw [pS_22] at h | rw [pS_23] at h | rw [pS_24] at h | rw [pS_25] at h | rw [pS_26] at h | rw [pS_27] at h | rw [pS_28] at h | rw [pS_29] at h | rw [pS_30] at h | rw [pS_31] at h | rw [pS_32] at h | rw [pS_33] at h | rw [pS_34] at h | rw [pS_35] at h | rw [pS_36] at h | rw [pS_37] at h | rw [pS_38] at h | rw [pS_39] at h | rw [pS_40] at h | rw [pS_41] at h | rw [pS_42] at h | rw [pS_43] at h | rw [pS_44] at h | rw [pS_45] at h | rw [pS_46] at h | rw [pS_47] at h | rw [pS_48] at h | rw [pS_49] at h | rw [pS_50] at h | rw [pS_51] at h | rw [pS_52] at h | rw [pS_53] at h | rw [pS_54] at h | rw [pS_55] at h | rw [pS_56] at h | rw [pS_57] at h | rw [pS_58] at h | rw [pS_59] at h | rw [pS_60] at h | rw [pS_61] at h | rw [pS_62] at h | rw [pS_63] at h | rw [pS_64] at h | rw [pS_65] at h | rw [pS_66] at h | rw [pS_67] at h)
      obtain ⟨tys, ws, -, -, -, -, hAs⟩ := hW
      have ha : a < 39 := (List.getElem?_eq_some_iff.mp hv).1
      have e1 : rv as (.ref (pSB + a)) = .ref (E.1 a) := congrArg Value.ref (hAs.1 a ha)
      have h2 := go _ _ h (okL_c.mpr ⟨Or.inr (Nat.le_add_right _ _), hst⟩)
      rw [List.map_cons, e1] at h2
      have hZ : vk_R (oS (mO M)) k (sTx.getD a "") (E.1 a) s := hE.2.1 a (mO M, k) hv
      exact va_ldcS (own := oS (mO M)) (tx := sTx.getD a "") (index := k) (q := E.1 a) hx hb hown hZ hd h2
  case ldc_w k =>
    simp only [ilen, Nat.beq_eq] at hlen
    simp only [okI, Bool.and_eq_true, Bool.or_eq_true, Nat.beq_eq, Nat.blt_eq, Nat.ble_eq, decide_eq_true_eq, beq_iff_eq] at hok
    subst hlen
    rcases hok with ⟨rfl, hv⟩ | ⟨rfl, hv⟩
    · (first | rw [pS_0] at h | rw [pS_1] at h | rw [pS_2] at h | rw [pS_3] at h | rw [pS_4] at h | rw [pS_5] at h | rw [pS_6] at h | rw [pS_7] at h | rw [pS_8] at h | rw [pS_9] at h | rw [pS_10] at h | rw [pS_11] at h | rw [pS_12] at h | rw [pS_13] at h | rw [pS_14] at h | rw [pS_15] at h | rw [pS_16] at h | rw [pS_17] at h | rw [pS_18] at h | rw [pS_19] at h | rw [pS_20] at h | rw [pS_21] at h | rw [pS_22] at h | rw [pS_23] at h | rw [pS_24] at h | rw [pS_25] at h | rw [pS_26] at h | rw [pS_27] at h | rw [pS_28] at h | rw [pS_29] at h | rw [pS_30] at h | rw [pS_31] at h | rw [pS_32] at h | rw [pS_33] at h | rw [pS_34] at h | rw [pS_35] at h | rw [pS_36] at h | rw [pS_37] at h | rw [pS_38] at h | rw [pS_39] at h | rw [pS_40] at h | rw [pS_41] at h | rw [pS_42] at h | rw [pS_43] at h | rw [pS_44] at h | rw [pS_45] at h | rw [pS_46] at h | rw [pS_47] at h | rw [pS_48] at h | rw [pS_49] at h | rw [pS_50] at h | rw [pS_51] at h | rw [pS_52] at h | rw [pS_53] at h | rw [pS_54] at h | rw [pS_55] at h | rw [pS_56] at h | rw [pS_57] at h | rw [pS_58] at h | rw [pS_59] at h | rw [pS_60] at h | rw [pS_61] at h | rw [pS_62] at h | rw [pS_63] at h | rw [pS_64] at h | rw [pS_65] at h | rw [pS_66] at h | rw [pS_67] at h)
      exact lv_ldcw hx hb hown (hts _ (CK_ok _ (List.contains_iff_mem.mp hv))) hd (go _ _ h (okL_c.mpr ⟨trivial, hst⟩))
    · (first | rw [pS_0] at h | rw [pS_1] at h | rw [pS_2] at h | rw [pS_3] at h | rw [pS_4] at h | rw [pS_5] at h | rw [pS_6] at h | rw [pS_7] at h | rw [pS_8] at h | rw [pS_9] at h | rw [pS_10] at h | rw [pS_11] at h | rw [pS_12] at h | rw [pS_13] at h | rw [pS_14] at h | rw [pS_15] at h | rw [pS_16] at h | rw [pS_17] at h | rw [pS_18] at h | rw [pS_19] at h | rw [pS_20] at h | rw [pS_21] at h | rw [pS_22] at h | rw [pS_23] at h | rw [pS_24] at h | rw [pS_25] at h | rw [pS_26] at h | rw [pS_27] at h | rw [pS_28] at h | rw [pS_29] at h | rw [pS_30] at h | rw [pS_31] at h | rw [pS_32] at h | rw [pS_33] at h | rw [pS_34] at h | rw [pS_35] at h | rw [pS_36] at h | rw [pS_37] at h | rw [pS_38] at h | rw [pS_39] at h | rw [pS_40] at h | rw [pS_41] at h | rw [pS_42] at h | rw [pS_43] at h | rw [pS_44] at h | rw [pS_45] at h | rw [pS_46] at h | rw [pS_47] at h | rw [pS_48] at h | rw [pS_49] at h | rw [pS_50] at h | rw [pS_51] at h | rw [pS_52] at h | rw [pS_53] at h | rw [pS_54] at h | rw [pS_55] at h | rw [pS_56] at h | rw [pS_57] at h | rw [pS_58] at h | rw [pS_59] at h | rw [pS_60] at h | rw [pS_61] at h | rw [pS_62] at h | rw [pS_63] at h | rw [pS_64] at h | rw [pS_65] at h | rw [pS_66] at h | rw [pS_67] at h)
      obtain ⟨tys, ws, -, -, -, -, hAs⟩ := hW
      have ha : a < 39 := (List.getElem?_eq_some_iff.mp hv).1
      have e1 : rv as (.ref (pSB + a)) = .ref (E.1 a) := congrArg Value.ref (hAs.1 a ha)
      have h2 := go _ _ h (okL_c.mpr ⟨Or.inr (Nat.le_add_right _ _), hst⟩)
      rw [List.map_cons, e1] at h2
      have hZ : vk_R (oS (mO M)) k (sTx.getD a "") (E.1 a) s := hE.2.1 a (mO M, k) hv
      exact my_ldcwS (own := oS (mO M)) (tx := sTx.getD a "") (index := k) (q := E.1 a) hx hb hown hZ hd h2
  case lconst v =>
    simp only [ilen, Nat.beq_eq] at hlen
    simp only [okI, Bool.and_eq_true, Bool.or_eq_true, Nat.beq_eq, Nat.blt_eq, Nat.ble_eq, decide_eq_true_eq, beq_iff_eq] at hok
    obtain ⟨rfl, rfl⟩ := hok
    subst hlen
    (first | rw [pS_0] at h | rw [pS_1] at h | rw [pS_2] at h | rw [pS_3] at h | rw [pS_4] at h | rw [pS_5] at h | rw [pS_6] at h | rw [pS_7] at h | rw [pS_8] at h | rw [pS_9] at h | rw [pS_10] at h | rw [pS_11] at h | rw [pS_12] at h | rw [pS_13] at h | rw [pS_14] at h | rw [pS_15] at h | rw [pS_16] at h | rw [pS_17] at h | rw [pS_18] at h | rw [pS_19] at h | rw [pS_20] at h | rw [pS_21] at h | rw [pS_22] at h | rw [pS_23] at h | rw [pS_24] at h | rw [pS_25] at h | rw [pS_26] at h | rw [pS_27] at h | rw [pS_28] at h | rw [pS_29] at h | rw [pS_30] at h | rw [pS_31] at h | rw [pS_32] at h | rw [pS_33] at h | rw [pS_34] at h | rw [pS_35] at h | rw [pS_36] at h | rw [pS_37] at h | rw [pS_38] at h | rw [pS_39] at h | rw [pS_40] at h | rw [pS_41] at h | rw [pS_42] at h | rw [pS_43] at h | rw [pS_44] at h | rw [pS_45] at h | rw [pS_46] at h | rw [pS_47] at h | rw [pS_48] at h | rw [pS_49] at h | rw [pS_50] at h | rw [pS_51] at h | rw [pS_52] at h | rw [pS_53] at h | rw [pS_54] at h | rw [pS_55] at h | rw [pS_56] at h | rw [pS_57] at h | rw [pS_58] at h | rw [pS_59] at h | rw [pS_60] at h | rw [pS_61] at h | rw [pS_62] at h | rw [pS_63] at h | rw [pS_64] at h | rw [pS_65] at h | rw [pS_66] at h | rw [pS_67] at h)
    exact lv_lconst hx hb hd (by cases v using Fin.cases <;> rfl) (go _ _ h (okL_c.mpr ⟨trivial, hst⟩))
  case ldc2_w k =>
    simp only [ilen, Nat.beq_eq] at hlen
    simp only [okI, Bool.and_eq_true, Bool.or_eq_true, Nat.beq_eq, Nat.blt_eq, Nat.ble_eq, decide_eq_true_eq, beq_iff_eq] at hok
    obtain ⟨rfl, hv⟩ := hok
    subst hlen
    (first | rw [pS_0] at h | rw [pS_1] at h | rw [pS_2] at h | rw [pS_3] at h | rw [pS_4] at h | rw [pS_5] at h | rw [pS_6] at h | rw [pS_7] at h | rw [pS_8] at h | rw [pS_9] at h | rw [pS_10] at h | rw [pS_11] at h | rw [pS_12] at h | rw [pS_13] at h | rw [pS_14] at h | rw [pS_15] at h | rw [pS_16] at h | rw [pS_17] at h | rw [pS_18] at h | rw [pS_19] at h | rw [pS_20] at h | rw [pS_21] at h | rw [pS_22] at h | rw [pS_23] at h | rw [pS_24] at h | rw [pS_25] at h | rw [pS_26] at h | rw [pS_27] at h | rw [pS_28] at h | rw [pS_29] at h | rw [pS_30] at h | rw [pS_31] at h | rw [pS_32] at h | rw [pS_33] at h | rw [pS_34] at h | rw [pS_35] at h | rw [pS_36] at h | rw [pS_37] at h | rw [pS_38] at h | rw [pS_39] at h | rw [pS_40] at h | rw [pS_41] at h | rw [pS_42] at h | rw [pS_43] at h | rw [pS_44] at h | rw [pS_45] at h | rw [pS_46] at h | rw [pS_47] at h | rw [pS_48] at h | rw [pS_49] at h | rw [pS_50] at h | rw [pS_51] at h | rw [pS_52] at h | rw [pS_53] at h | rw [pS_54] at h | rw [pS_55] at h | rw [pS_56] at h | rw [pS_57] at h | rw [pS_58] at h | rw [pS_59] at h | rw [pS_60] at h | rw [pS_61] at h | rw [pS_62] at h | rw [pS_63] at h | rw [pS_64] at h | rw [pS_65] at h | rw [pS_66] at h | rw [pS_67] at h)
    exact lv_ldc2 hx hb hown (hts _ (CJ_ok _ (List.contains_iff_mem.mp hv))) hd (go _ _ h (okL_c.mpr ⟨trivial, hst⟩))
  case iload k =>
    simp only [ilen, Nat.beq_eq] at hlen
    simp only [okI, Bool.and_eq_true, Bool.or_eq_true, Nat.beq_eq, Nat.blt_eq, Nat.ble_eq, decide_eq_true_eq, beq_iff_eq] at hok
    obtain ⟨rfl, rfl⟩ := hok
    subst hlen
    (first | rw [pS_0] at h | rw [pS_1] at h | rw [pS_2] at h | rw [pS_3] at h | rw [pS_4] at h | rw [pS_5] at h | rw [pS_6] at h | rw [pS_7] at h | rw [pS_8] at h | rw [pS_9] at h | rw [pS_10] at h | rw [pS_11] at h | rw [pS_12] at h | rw [pS_13] at h | rw [pS_14] at h | rw [pS_15] at h | rw [pS_16] at h | rw [pS_17] at h | rw [pS_18] at h | rw [pS_19] at h | rw [pS_20] at h | rw [pS_21] at h | rw [pS_22] at h | rw [pS_23] at h | rw [pS_24] at h | rw [pS_25] at h | rw [pS_26] at h | rw [pS_27] at h | rw [pS_28] at h | rw [pS_29] at h | rw [pS_30] at h | rw [pS_31] at h | rw [pS_32] at h | rw [pS_33] at h | rw [pS_34] at h | rw [pS_35] at h | rw [pS_36] at h | rw [pS_37] at h | rw [pS_38] at h | rw [pS_39] at h | rw [pS_40] at h | rw [pS_41] at h | rw [pS_42] at h | rw [pS_43] at h | rw [pS_44] at h | rw [pS_45] at h | rw [pS_46] at h | rw [pS_47] at h | rw [pS_48] at h | rw [pS_49] at h | rw [pS_50] at h | rw [pS_51] at h | rw [pS_52] at h | rw [pS_53] at h | rw [pS_54] at h | rw [pS_55] at h | rw [pS_56] at h | rw [pS_57] at h | rw [pS_58] at h | rw [pS_59] at h | rw [pS_60] at h | rw [pS_61] at h | rw [pS_62] at h | rw [pS_63] at h | rw [pS_64] at h | rw [pS_65] at h | rw [pS_66] at h | rw [pS_67] at h)
    (have h0 := tI_i h); clear h; obtain ⟨v, hv, h⟩ := h0
    exact lv_iload hx hb hd (hL.at hv (by intro e; cases e)) (go _ _ h (okL_c.mpr ⟨trivial, hst⟩))
  case iload_n k =>
    simp only [ilen, Nat.beq_eq] at hlen
    simp only [okI, Bool.and_eq_true, Bool.or_eq_true, Nat.beq_eq, Nat.blt_eq, Nat.ble_eq, decide_eq_true_eq, beq_iff_eq] at hok
    obtain ⟨rfl, rfl⟩ := hok
    subst hlen
    (first | rw [pS_0] at h | rw [pS_1] at h | rw [pS_2] at h | rw [pS_3] at h | rw [pS_4] at h | rw [pS_5] at h | rw [pS_6] at h | rw [pS_7] at h | rw [pS_8] at h | rw [pS_9] at h | rw [pS_10] at h | rw [pS_11] at h | rw [pS_12] at h | rw [pS_13] at h | rw [pS_14] at h | rw [pS_15] at h | rw [pS_16] at h | rw [pS_17] at h | rw [pS_18] at h | rw [pS_19] at h | rw [pS_20] at h | rw [pS_21] at h | rw [pS_22] at h | rw [pS_23] at h | rw [pS_24] at h | rw [pS_25] at h | rw [pS_26] at h | rw [pS_27] at h | rw [pS_28] at h | rw [pS_29] at h | rw [pS_30] at h | rw [pS_31] at h | rw [pS_32] at h | rw [pS_33] at h | rw [pS_34] at h | rw [pS_35] at h | rw [pS_36] at h | rw [pS_37] at h | rw [pS_38] at h | rw [pS_39] at h | rw [pS_40] at h | rw [pS_41] at h | rw [pS_42] at h | rw [pS_43] at h | rw [pS_44] at h | rw [pS_45] at h | rw [pS_46] at h | rw [pS_47] at h | rw [pS_48] at h | rw [pS_49] at h | rw [pS_50] at h | rw [pS_51] at h | rw [pS_52] at h | rw [pS_53] at h | rw [pS_54] at h | rw [pS_55] at h | rw [pS_56] at h | rw [pS_57] at h | rw [pS_58] at h | rw [pS_59] at h | rw [pS_60] at h | rw [pS_61] at h | rw [pS_62] at h | rw [pS_63] at h | rw [pS_64] at h | rw [pS_65] at h | rw [pS_66] at h | rw [pS_67] at h)
    (have h0 := tI_i h); clear h; obtain ⟨v, hv, h⟩ := h0
    exact lv_iload_n hx hb hd rfl (hL.at hv (by intro e; cases e)) (go _ _ h (okL_c.mpr ⟨trivial, hst⟩))
  case lload k =>
    simp only [ilen, Nat.beq_eq] at hlen
    simp only [okI, Bool.and_eq_true, Bool.or_eq_true, Nat.beq_eq, Nat.blt_eq, Nat.ble_eq, decide_eq_true_eq, beq_iff_eq] at hok
    obtain ⟨rfl, rfl⟩ := hok
    subst hlen
    (first | rw [pS_0] at h | rw [pS_1] at h | rw [pS_2] at h | rw [pS_3] at h | rw [pS_4] at h | rw [pS_5] at h | rw [pS_6] at h | rw [pS_7] at h | rw [pS_8] at h | rw [pS_9] at h | rw [pS_10] at h | rw [pS_11] at h | rw [pS_12] at h | rw [pS_13] at h | rw [pS_14] at h | rw [pS_15] at h | rw [pS_16] at h | rw [pS_17] at h | rw [pS_18] at h | rw [pS_19] at h | rw [pS_20] at h | rw [pS_21] at h | rw [pS_22] at h | rw [pS_23] at h | rw [pS_24] at h | rw [pS_25] at h | rw [pS_26] at h | rw [pS_27] at h | rw [pS_28] at h | rw [pS_29] at h | rw [pS_30] at h | rw [pS_31] at h | rw [pS_32] at h | rw [pS_33] at h | rw [pS_34] at h | rw [pS_35] at h | rw [pS_36] at h | rw [pS_37] at h | rw [pS_38] at h | rw [pS_39] at h | rw [pS_40] at h | rw [pS_41] at h | rw [pS_42] at h | rw [pS_43] at h | rw [pS_44] at h | rw [pS_45] at h | rw [pS_46] at h | rw [pS_47] at h | rw [pS_48] at h | rw [pS_49] at h | rw [pS_50] at h | rw [pS_51] at h | rw [pS_52] at h | rw [pS_53] at h | rw [pS_54] at h | rw [pS_55] at h | rw [pS_56] at h | rw [pS_57] at h | rw [pS_58] at h | rw [pS_59] at h | rw [pS_60] at h | rw [pS_61] at h | rw [pS_62] at h | rw [pS_63] at h | rw [pS_64] at h | rw [pS_65] at h | rw [pS_66] at h | rw [pS_67] at h)
    (have h0 := tJ_i h); clear h; obtain ⟨v, hv, h⟩ := h0
    exact lv_lload hx hb hd (hL.at hv (by intro e; cases e)) (go _ _ h (okL_c.mpr ⟨trivial, hst⟩))
  case lload_n k =>
    simp only [ilen, Nat.beq_eq] at hlen
    simp only [okI, Bool.and_eq_true, Bool.or_eq_true, Nat.beq_eq, Nat.blt_eq, Nat.ble_eq, decide_eq_true_eq, beq_iff_eq] at hok
    obtain ⟨rfl, rfl⟩ := hok
    subst hlen
    (first | rw [pS_0] at h | rw [pS_1] at h | rw [pS_2] at h | rw [pS_3] at h | rw [pS_4] at h | rw [pS_5] at h | rw [pS_6] at h | rw [pS_7] at h | rw [pS_8] at h | rw [pS_9] at h | rw [pS_10] at h | rw [pS_11] at h | rw [pS_12] at h | rw [pS_13] at h | rw [pS_14] at h | rw [pS_15] at h | rw [pS_16] at h | rw [pS_17] at h | rw [pS_18] at h | rw [pS_19] at h | rw [pS_20] at h | rw [pS_21] at h | rw [pS_22] at h | rw [pS_23] at h | rw [pS_24] at h | rw [pS_25] at h | rw [pS_26] at h | rw [pS_27] at h | rw [pS_28] at h | rw [pS_29] at h | rw [pS_30] at h | rw [pS_31] at h | rw [pS_32] at h | rw [pS_33] at h | rw [pS_34] at h | rw [pS_35] at h | rw [pS_36] at h | rw [pS_37] at h | rw [pS_38] at h | rw [pS_39] at h | rw [pS_40] at h | rw [pS_41] at h | rw [pS_42] at h | rw [pS_43] at h | rw [pS_44] at h | rw [pS_45] at h | rw [pS_46] at h | rw [pS_47] at h | rw [pS_48] at h | rw [pS_49] at h | rw [pS_50] at h | rw [pS_51] at h | rw [pS_52] at h | rw [pS_53] at h | rw [pS_54] at h | rw [pS_55] at h | rw [pS_56] at h | rw [pS_57] at h | rw [pS_58] at h | rw [pS_59] at h | rw [pS_60] at h | rw [pS_61] at h | rw [pS_62] at h | rw [pS_63] at h | rw [pS_64] at h | rw [pS_65] at h | rw [pS_66] at h | rw [pS_67] at h)
    (have h0 := tJ_i h); clear h; obtain ⟨v, hv, h⟩ := h0
    exact lv_lload_n hx hb hd rfl (hL.at hv (by intro e; cases e)) (go _ _ h (okL_c.mpr ⟨trivial, hst⟩))
  case aload k =>
    simp only [ilen, Nat.beq_eq] at hlen
    simp only [okI, Bool.and_eq_true, Bool.or_eq_true, Nat.beq_eq, Nat.blt_eq, Nat.ble_eq, decide_eq_true_eq, beq_iff_eq] at hok
    obtain ⟨rfl, rfl⟩ := hok
    subst hlen
    (first | rw [pS_0] at h | rw [pS_1] at h | rw [pS_2] at h | rw [pS_3] at h | rw [pS_4] at h | rw [pS_5] at h | rw [pS_6] at h | rw [pS_7] at h | rw [pS_8] at h | rw [pS_9] at h | rw [pS_10] at h | rw [pS_11] at h | rw [pS_12] at h | rw [pS_13] at h | rw [pS_14] at h | rw [pS_15] at h | rw [pS_16] at h | rw [pS_17] at h | rw [pS_18] at h | rw [pS_19] at h | rw [pS_20] at h | rw [pS_21] at h | rw [pS_22] at h | rw [pS_23] at h | rw [pS_24] at h | rw [pS_25] at h | rw [pS_26] at h | rw [pS_27] at h | rw [pS_28] at h | rw [pS_29] at h | rw [pS_30] at h | rw [pS_31] at h | rw [pS_32] at h | rw [pS_33] at h | rw [pS_34] at h | rw [pS_35] at h | rw [pS_36] at h | rw [pS_37] at h | rw [pS_38] at h | rw [pS_39] at h | rw [pS_40] at h | rw [pS_41] at h | rw [pS_42] at h | rw [pS_43] at h | rw [pS_44] at h | rw [pS_45] at h | rw [pS_46] at h | rw [pS_47] at h | rw [pS_48] at h | rw [pS_49] at h | rw [pS_50] at h | rw [pS_51] at h | rw [pS_52] at h | rw [pS_53] at h | rw [pS_54] at h | rw [pS_55] at h | rw [pS_56] at h | rw [pS_57] at h | rw [pS_58] at h | rw [pS_59] at h | rw [pS_60] at h | rw [pS_61] at h | rw [pS_62] at h | rw [pS_63] at h | rw [pS_64] at h | rw [pS_65] at h | rw [pS_66] at h | rw [pS_67] at h)
    (have h0 := tA_i h); clear h; obtain ⟨v, hv, h⟩ := h0
    cases v with
    | none => exact lv_aloadN hx hb hd (hL.at hv (by intro e; cases e)) (go _ _ h (okL_c.mpr ⟨trivial, hst⟩))
    | some q => exact lv_aload hx hb hd (hL.at hv (by intro e; cases e)) (go _ _ h (okL_c.mpr ⟨okL_get hls hv, hst⟩))
  case aload_n k =>
    simp only [ilen, Nat.beq_eq] at hlen
    simp only [okI, Bool.and_eq_true, Bool.or_eq_true, Nat.beq_eq, Nat.blt_eq, Nat.ble_eq, decide_eq_true_eq, beq_iff_eq] at hok
    obtain ⟨rfl, rfl⟩ := hok
    subst hlen
    (first | rw [pS_0] at h | rw [pS_1] at h | rw [pS_2] at h | rw [pS_3] at h | rw [pS_4] at h | rw [pS_5] at h | rw [pS_6] at h | rw [pS_7] at h | rw [pS_8] at h | rw [pS_9] at h | rw [pS_10] at h | rw [pS_11] at h | rw [pS_12] at h | rw [pS_13] at h | rw [pS_14] at h | rw [pS_15] at h | rw [pS_16] at h | rw [pS_17] at h | rw [pS_18] at h | rw [pS_19] at h | rw [pS_20] at h | rw [pS_21] at h | rw [pS_22] at h | rw [pS_23] at h | rw [pS_24] at h | rw [pS_25] at h | rw [pS_26] at h | rw [pS_27] at h | rw [pS_28] at h | rw [pS_29] at h | rw [pS_30] at h | rw [pS_31] at h | rw [pS_32] at h | rw [pS_33] at h | rw [pS_34] at h | rw [pS_35] at h | rw [pS_36] at h | rw [pS_37] at h | rw [pS_38] at h | rw [pS_39] at h | rw [pS_40] at h | rw [pS_41] at h | rw [pS_42] at h | rw [pS_43] at h | rw [pS_44] at h | rw [pS_45] at h | rw [pS_46] at h | rw [pS_47] at h | rw [pS_48] at h | rw [pS_49] at h | rw [pS_50] at h | rw [pS_51] at h | rw [pS_52] at h | rw [pS_53] at h | rw [pS_54] at h | rw [pS_55] at h | rw [pS_56] at h | rw [pS_57] at h | rw [pS_58] at h | rw [pS_59] at h | rw [pS_60] at h | rw [pS_61] at h | rw [pS_62] at h | rw [pS_63] at h | rw [pS_64] at h | rw [pS_65] at h | rw [pS_66] at h | rw [pS_67] at h)
    (have h0 := tA_i h); clear h; obtain ⟨v, hv, h⟩ := h0
    cases v with
    | none => exact lv_aload_nN hx hb hd rfl (hL.at hv (by intro e; cases e)) (go _ _ h (okL_c.mpr ⟨trivial, hst⟩))
    | some q => exact lv_aload_n hx hb hd rfl (hL.at hv (by intro e; cases e)) (go _ _ h (okL_c.mpr ⟨okL_get hls hv, hst⟩))
  case istore k =>
    simp only [ilen, Nat.beq_eq] at hlen
    simp only [okI, Bool.and_eq_true, Bool.or_eq_true, Nat.beq_eq, Nat.blt_eq, Nat.ble_eq, decide_eq_true_eq, beq_iff_eq] at hok
    obtain ⟨⟨⟨⟨rfl, rfl⟩, hi⟩, hj⟩, hb1⟩ := hok
    subst hlen
    (first | rw [pS_0] at h | rw [pS_1] at h | rw [pS_2] at h | rw [pS_3] at h | rw [pS_4] at h | rw [pS_5] at h | rw [pS_6] at h | rw [pS_7] at h | rw [pS_8] at h | rw [pS_9] at h | rw [pS_10] at h | rw [pS_11] at h | rw [pS_12] at h | rw [pS_13] at h | rw [pS_14] at h | rw [pS_15] at h | rw [pS_16] at h | rw [pS_17] at h | rw [pS_18] at h | rw [pS_19] at h | rw [pS_20] at h | rw [pS_21] at h | rw [pS_22] at h | rw [pS_23] at h | rw [pS_24] at h | rw [pS_25] at h | rw [pS_26] at h | rw [pS_27] at h | rw [pS_28] at h | rw [pS_29] at h | rw [pS_30] at h | rw [pS_31] at h | rw [pS_32] at h | rw [pS_33] at h | rw [pS_34] at h | rw [pS_35] at h | rw [pS_36] at h | rw [pS_37] at h | rw [pS_38] at h | rw [pS_39] at h | rw [pS_40] at h | rw [pS_41] at h | rw [pS_42] at h | rw [pS_43] at h | rw [pS_44] at h | rw [pS_45] at h | rw [pS_46] at h | rw [pS_47] at h | rw [pS_48] at h | rw [pS_49] at h | rw [pS_50] at h | rw [pS_51] at h | rw [pS_52] at h | rw [pS_53] at h | rw [pS_54] at h | rw [pS_55] at h | rw [pS_56] at h | rw [pS_57] at h | rw [pS_58] at h | rw [pS_59] at h | rw [pS_60] at h | rw [pS_61] at h | rw [pS_62] at h | rw [pS_63] at h | rw [pS_64] at h | rw [pS_65] at h | rw [pS_66] at h | rw [pS_67] at h)
    (have h0 := kI_i h); clear h; obtain ⟨v, r, rfl, h⟩ := h0
    exact lv_istore hx hb hd hL.has hi rfl (fun ls' h' => goL _ _ _ _ h (hL.st1 hj hb1 hi (fun _ e => by cases e) (fun _ e => by cases e) (fun e => by cases e) h') (okL_st hls trivial) (okL_c.mp hst).2)
  case istore_n k =>
    simp only [ilen, Nat.beq_eq] at hlen
    simp only [okI, Bool.and_eq_true, Bool.or_eq_true, Nat.beq_eq, Nat.blt_eq, Nat.ble_eq, decide_eq_true_eq, beq_iff_eq] at hok
    obtain ⟨⟨⟨⟨rfl, rfl⟩, hi⟩, hj⟩, hb1⟩ := hok
    subst hlen
    (first | rw [pS_0] at h | rw [pS_1] at h | rw [pS_2] at h | rw [pS_3] at h | rw [pS_4] at h | rw [pS_5] at h | rw [pS_6] at h | rw [pS_7] at h | rw [pS_8] at h | rw [pS_9] at h | rw [pS_10] at h | rw [pS_11] at h | rw [pS_12] at h | rw [pS_13] at h | rw [pS_14] at h | rw [pS_15] at h | rw [pS_16] at h | rw [pS_17] at h | rw [pS_18] at h | rw [pS_19] at h | rw [pS_20] at h | rw [pS_21] at h | rw [pS_22] at h | rw [pS_23] at h | rw [pS_24] at h | rw [pS_25] at h | rw [pS_26] at h | rw [pS_27] at h | rw [pS_28] at h | rw [pS_29] at h | rw [pS_30] at h | rw [pS_31] at h | rw [pS_32] at h | rw [pS_33] at h | rw [pS_34] at h | rw [pS_35] at h | rw [pS_36] at h | rw [pS_37] at h | rw [pS_38] at h | rw [pS_39] at h | rw [pS_40] at h | rw [pS_41] at h | rw [pS_42] at h | rw [pS_43] at h | rw [pS_44] at h | rw [pS_45] at h | rw [pS_46] at h | rw [pS_47] at h | rw [pS_48] at h | rw [pS_49] at h | rw [pS_50] at h | rw [pS_51] at h | rw [pS_52] at h | rw [pS_53] at h | rw [pS_54] at h | rw [pS_55] at h | rw [pS_56] at h | rw [pS_57] at h | rw [pS_58] at h | rw [pS_59] at h | rw [pS_60] at h | rw [pS_61] at h | rw [pS_62] at h | rw [pS_63] at h | rw [pS_64] at h | rw [pS_65] at h | rw [pS_66] at h | rw [pS_67] at h)
    (have h0 := kI_i h); clear h; obtain ⟨v, r, rfl, h⟩ := h0
    exact lv_istore_n hx hb hd rfl hL.has hi rfl (fun ls' h' => goL _ _ _ _ h (hL.st1 hj hb1 hi (fun _ e => by cases e) (fun _ e => by cases e) (fun e => by cases e) h') (okL_st hls trivial) (okL_c.mp hst).2)
  case astore k =>
    simp only [ilen, Nat.beq_eq] at hlen
    simp only [okI, Bool.and_eq_true, Bool.or_eq_true, Nat.beq_eq, Nat.blt_eq, Nat.ble_eq, decide_eq_true_eq, beq_iff_eq] at hok
    obtain ⟨⟨⟨⟨rfl, rfl⟩, hi⟩, hj⟩, hb1⟩ := hok
    subst hlen
    (first | rw [pS_0] at h | rw [pS_1] at h | rw [pS_2] at h | rw [pS_3] at h | rw [pS_4] at h | rw [pS_5] at h | rw [pS_6] at h | rw [pS_7] at h | rw [pS_8] at h | rw [pS_9] at h | rw [pS_10] at h | rw [pS_11] at h | rw [pS_12] at h | rw [pS_13] at h | rw [pS_14] at h | rw [pS_15] at h | rw [pS_16] at h | rw [pS_17] at h | rw [pS_18] at h | rw [pS_19] at h | rw [pS_20] at h | rw [pS_21] at h | rw [pS_22] at h | rw [pS_23] at h | rw [pS_24] at h | rw [pS_25] at h | rw [pS_26] at h | rw [pS_27] at h | rw [pS_28] at h | rw [pS_29] at h | rw [pS_30] at h | rw [pS_31] at h | rw [pS_32] at h | rw [pS_33] at h | rw [pS_34] at h | rw [pS_35] at h | rw [pS_36] at h | rw [pS_37] at h | rw [pS_38] at h | rw [pS_39] at h | rw [pS_40] at h | rw [pS_41] at h | rw [pS_42] at h | rw [pS_43] at h | rw [pS_44] at h | rw [pS_45] at h | rw [pS_46] at h | rw [pS_47] at h | rw [pS_48] at h | rw [pS_49] at h | rw [pS_50] at h | rw [pS_51] at h | rw [pS_52] at h | rw [pS_53] at h | rw [pS_54] at h | rw [pS_55] at h | rw [pS_56] at h | rw [pS_57] at h | rw [pS_58] at h | rw [pS_59] at h | rw [pS_60] at h | rw [pS_61] at h | rw [pS_62] at h | rw [pS_63] at h | rw [pS_64] at h | rw [pS_65] at h | rw [pS_66] at h | rw [pS_67] at h)
    (have h0 := kAn_i h); clear h; obtain ⟨v, r, rfl, h⟩ := h0
    cases v with
    | none => exact lv_astoreN hx hb hd hL.has hi rfl (fun ls' h' => goL _ _ _ _ h (hL.st1 (v := .null) hj hb1 hi (fun _ e => by cases e) (fun _ e => by cases e) (fun e => by cases e) h') (okL_st hls trivial) (okL_c.mp hst).2)
    | some q => exact lv_astore hx hb hd hL.has hi rfl (fun ls' h' => goL _ _ _ _ h (hL.st1 (v := .ref q) hj hb1 hi (fun _ e => by cases e) (fun _ e => by cases e) (fun e => by cases e) h') (okL_st hls (okL_c.mp hst).1) (okL_c.mp hst).2)
  case astore_n k =>
    simp only [ilen, Nat.beq_eq] at hlen
    simp only [okI, Bool.and_eq_true, Bool.or_eq_true, Nat.beq_eq, Nat.blt_eq, Nat.ble_eq, decide_eq_true_eq, beq_iff_eq] at hok
    obtain ⟨⟨⟨⟨rfl, rfl⟩, hi⟩, hj⟩, hb1⟩ := hok
    subst hlen
    (first | rw [pS_0] at h | rw [pS_1] at h | rw [pS_2] at h | rw [pS_3] at h | rw [pS_4] at h | rw [pS_5] at h | rw [pS_6] at h | rw [pS_7] at h | rw [pS_8] at h | rw [pS_9] at h | rw [pS_10] at h | rw [pS_11] at h | rw [pS_12] at h | rw [pS_13] at h | rw [pS_14] at h | rw [pS_15] at h | rw [pS_16] at h | rw [pS_17] at h | rw [pS_18] at h | rw [pS_19] at h | rw [pS_20] at h | rw [pS_21] at h | rw [pS_22] at h | rw [pS_23] at h | rw [pS_24] at h | rw [pS_25] at h | rw [pS_26] at h | rw [pS_27] at h | rw [pS_28] at h | rw [pS_29] at h | rw [pS_30] at h | rw [pS_31] at h | rw [pS_32] at h | rw [pS_33] at h | rw [pS_34] at h | rw [pS_35] at h | rw [pS_36] at h | rw [pS_37] at h | rw [pS_38] at h | rw [pS_39] at h | rw [pS_40] at h | rw [pS_41] at h | rw [pS_42] at h | rw [pS_43] at h | rw [pS_44] at h | rw [pS_45] at h | rw [pS_46] at h | rw [pS_47] at h | rw [pS_48] at h | rw [pS_49] at h | rw [pS_50] at h | rw [pS_51] at h | rw [pS_52] at h | rw [pS_53] at h | rw [pS_54] at h | rw [pS_55] at h | rw [pS_56] at h | rw [pS_57] at h | rw [pS_58] at h | rw [pS_59] at h | rw [pS_60] at h | rw [pS_61] at h | rw [pS_62] at h | rw [pS_63] at h | rw [pS_64] at h | rw [pS_65] at h | rw [pS_66] at h | rw [pS_67] at h)
    (have h0 := kAn_i h); clear h; obtain ⟨v, r, rfl, h⟩ := h0
    cases v with
    | none => exact lv_astore_nN hx hb hd rfl hL.has hi rfl (fun ls' h' => goL _ _ _ _ h (hL.st1 (v := .null) hj hb1 hi (fun _ e => by cases e) (fun _ e => by cases e) (fun e => by cases e) h') (okL_st hls trivial) (okL_c.mp hst).2)
    | some q => exact lv_astore_n hx hb hd rfl hL.has hi rfl (fun ls' h' => goL _ _ _ _ h (hL.st1 (v := .ref q) hj hb1 hi (fun _ e => by cases e) (fun _ e => by cases e) (fun e => by cases e) h') (okL_st hls (okL_c.mp hst).1) (okL_c.mp hst).2)
  case lstore k =>
    simp only [ilen, Nat.beq_eq] at hlen
    simp only [okI, Bool.and_eq_true, Bool.or_eq_true, Nat.beq_eq, Nat.blt_eq, Nat.ble_eq, decide_eq_true_eq, beq_iff_eq] at hok
    obtain ⟨⟨⟨rfl, rfl⟩, hi⟩, hj⟩ := hok
    subst hlen
    (first | rw [pS_0] at h | rw [pS_1] at h | rw [pS_2] at h | rw [pS_3] at h | rw [pS_4] at h | rw [pS_5] at h | rw [pS_6] at h | rw [pS_7] at h | rw [pS_8] at h | rw [pS_9] at h | rw [pS_10] at h | rw [pS_11] at h | rw [pS_12] at h | rw [pS_13] at h | rw [pS_14] at h | rw [pS_15] at h | rw [pS_16] at h | rw [pS_17] at h | rw [pS_18] at h | rw [pS_19] at h | rw [pS_20] at h | rw [pS_21] at h | rw [pS_22] at h | rw [pS_23] at h | rw [pS_24] at h | rw [pS_25] at h | rw [pS_26] at h | rw [pS_27] at h | rw [pS_28] at h | rw [pS_29] at h | rw [pS_30] at h | rw [pS_31] at h | rw [pS_32] at h | rw [pS_33] at h | rw [pS_34] at h | rw [pS_35] at h | rw [pS_36] at h | rw [pS_37] at h | rw [pS_38] at h | rw [pS_39] at h | rw [pS_40] at h | rw [pS_41] at h | rw [pS_42] at h | rw [pS_43] at h | rw [pS_44] at h | rw [pS_45] at h | rw [pS_46] at h | rw [pS_47] at h | rw [pS_48] at h | rw [pS_49] at h | rw [pS_50] at h | rw [pS_51] at h | rw [pS_52] at h | rw [pS_53] at h | rw [pS_54] at h | rw [pS_55] at h | rw [pS_56] at h | rw [pS_57] at h | rw [pS_58] at h | rw [pS_59] at h | rw [pS_60] at h | rw [pS_61] at h | rw [pS_62] at h | rw [pS_63] at h | rw [pS_64] at h | rw [pS_65] at h | rw [pS_66] at h | rw [pS_67] at h)
    (have h0 := kJ_i h); clear h; obtain ⟨v, r, rfl, h⟩ := h0
    rw [hj] at hL goL
    exact lv_lstore hx hb hd hL.has hi rfl (fun ls' h' => goL _ _ _ _ h (hL.st2 hi h') (okL_st2 hls trivial) (okL_c.mp hst).2)
  case lstore_n k =>
    simp only [ilen, Nat.beq_eq] at hlen
    simp only [okI, Bool.and_eq_true, Bool.or_eq_true, Nat.beq_eq, Nat.blt_eq, Nat.ble_eq, decide_eq_true_eq, beq_iff_eq] at hok
    obtain ⟨⟨⟨rfl, rfl⟩, hi⟩, hj⟩ := hok
    subst hlen
    (first | rw [pS_0] at h | rw [pS_1] at h | rw [pS_2] at h | rw [pS_3] at h | rw [pS_4] at h | rw [pS_5] at h | rw [pS_6] at h | rw [pS_7] at h | rw [pS_8] at h | rw [pS_9] at h | rw [pS_10] at h | rw [pS_11] at h | rw [pS_12] at h | rw [pS_13] at h | rw [pS_14] at h | rw [pS_15] at h | rw [pS_16] at h | rw [pS_17] at h | rw [pS_18] at h | rw [pS_19] at h | rw [pS_20] at h | rw [pS_21] at h | rw [pS_22] at h | rw [pS_23] at h | rw [pS_24] at h | rw [pS_25] at h | rw [pS_26] at h | rw [pS_27] at h | rw [pS_28] at h | rw [pS_29] at h | rw [pS_30] at h | rw [pS_31] at h | rw [pS_32] at h | rw [pS_33] at h | rw [pS_34] at h | rw [pS_35] at h | rw [pS_36] at h | rw [pS_37] at h | rw [pS_38] at h | rw [pS_39] at h | rw [pS_40] at h | rw [pS_41] at h | rw [pS_42] at h | rw [pS_43] at h | rw [pS_44] at h | rw [pS_45] at h | rw [pS_46] at h | rw [pS_47] at h | rw [pS_48] at h | rw [pS_49] at h | rw [pS_50] at h | rw [pS_51] at h | rw [pS_52] at h | rw [pS_53] at h | rw [pS_54] at h | rw [pS_55] at h | rw [pS_56] at h | rw [pS_57] at h | rw [pS_58] at h | rw [pS_59] at h | rw [pS_60] at h | rw [pS_61] at h | rw [pS_62] at h | rw [pS_63] at h | rw [pS_64] at h | rw [pS_65] at h | rw [pS_66] at h | rw [pS_67] at h)
    (have h0 := kJ_i h); clear h; obtain ⟨v, r, rfl, h⟩ := h0
    rw [hj] at hL goL
    exact lv_lstore_n hx hb hd rfl hL.has hi rfl (fun ls' h' => goL _ _ _ _ h (hL.st2 hi h') (okL_st2 hls trivial) (okL_c.mp hst).2)
  case iinc k zz =>
    simp only [ilen, Nat.beq_eq] at hlen
    simp only [okI, Bool.and_eq_true, Bool.or_eq_true, Nat.beq_eq, Nat.blt_eq, Nat.ble_eq, decide_eq_true_eq, beq_iff_eq] at hok
    obtain ⟨⟨⟨⟨⟨rfl, rfl⟩, rfl⟩, hi⟩, hj⟩, hb1⟩ := hok
    subst hlen
    (first | rw [pS_0] at h | rw [pS_1] at h | rw [pS_2] at h | rw [pS_3] at h | rw [pS_4] at h | rw [pS_5] at h | rw [pS_6] at h | rw [pS_7] at h | rw [pS_8] at h | rw [pS_9] at h | rw [pS_10] at h | rw [pS_11] at h | rw [pS_12] at h | rw [pS_13] at h | rw [pS_14] at h | rw [pS_15] at h | rw [pS_16] at h | rw [pS_17] at h | rw [pS_18] at h | rw [pS_19] at h | rw [pS_20] at h | rw [pS_21] at h | rw [pS_22] at h | rw [pS_23] at h | rw [pS_24] at h | rw [pS_25] at h | rw [pS_26] at h | rw [pS_27] at h | rw [pS_28] at h | rw [pS_29] at h | rw [pS_30] at h | rw [pS_31] at h | rw [pS_32] at h | rw [pS_33] at h | rw [pS_34] at h | rw [pS_35] at h | rw [pS_36] at h | rw [pS_37] at h | rw [pS_38] at h | rw [pS_39] at h | rw [pS_40] at h | rw [pS_41] at h | rw [pS_42] at h | rw [pS_43] at h | rw [pS_44] at h | rw [pS_45] at h | rw [pS_46] at h | rw [pS_47] at h | rw [pS_48] at h | rw [pS_49] at h | rw [pS_50] at h | rw [pS_51] at h | rw [pS_52] at h | rw [pS_53] at h | rw [pS_54] at h | rw [pS_55] at h | rw [pS_56] at h | rw [pS_57] at h | rw [pS_58] at h | rw [pS_59] at h | rw [pS_60] at h | rw [pS_61] at h | rw [pS_62] at h | rw [pS_63] at h | rw [pS_64] at h | rw [pS_65] at h | rw [pS_66] at h | rw [pS_67] at h)
    (have h0 := tI_i h); clear h; obtain ⟨v, hv, h⟩ := h0
    obtain ⟨kk, hkk⟩ := mem_ix (lvP_mem.mpr ⟨_, hv, (by intro e; cases e), rfl⟩ : (_, rv as (.int v)) ∈ lvP as ls)
    exact lv_iinc hx hb hd hL.has hkk rfl hi rfl (fun ls' h' => goL _ _ _ _ h (hL.st1 hj hb1 hi (fun _ e => by cases e) (fun _ e => by cases e) (fun e => by cases e) h') (okL_st hls trivial) hst)
  case iadd =>
    simp only [ilen, Nat.beq_eq] at hlen
    simp only [okI, Bool.and_eq_true, Bool.or_eq_true, Nat.beq_eq, Nat.blt_eq, Nat.ble_eq, decide_eq_true_eq, beq_iff_eq] at hok
    obtain ⟨rfl, rfl⟩ := hok
    subst hlen
    (first | rw [pS_0] at h | rw [pS_1] at h | rw [pS_2] at h | rw [pS_3] at h | rw [pS_4] at h | rw [pS_5] at h | rw [pS_6] at h | rw [pS_7] at h | rw [pS_8] at h | rw [pS_9] at h | rw [pS_10] at h | rw [pS_11] at h | rw [pS_12] at h | rw [pS_13] at h | rw [pS_14] at h | rw [pS_15] at h | rw [pS_16] at h | rw [pS_17] at h | rw [pS_18] at h | rw [pS_19] at h | rw [pS_20] at h | rw [pS_21] at h | rw [pS_22] at h | rw [pS_23] at h | rw [pS_24] at h | rw [pS_25] at h | rw [pS_26] at h | rw [pS_27] at h | rw [pS_28] at h | rw [pS_29] at h | rw [pS_30] at h | rw [pS_31] at h | rw [pS_32] at h | rw [pS_33] at h | rw [pS_34] at h | rw [pS_35] at h | rw [pS_36] at h | rw [pS_37] at h | rw [pS_38] at h | rw [pS_39] at h | rw [pS_40] at h | rw [pS_41] at h | rw [pS_42] at h | rw [pS_43] at h | rw [pS_44] at h | rw [pS_45] at h | rw [pS_46] at h | rw [pS_47] at h | rw [pS_48] at h | rw [pS_49] at h | rw [pS_50] at h | rw [pS_51] at h | rw [pS_52] at h | rw [pS_53] at h | rw [pS_54] at h | rw [pS_55] at h | rw [pS_56] at h | rw [pS_57] at h | rw [pS_58] at h | rw [pS_59] at h | rw [pS_60] at h | rw [pS_61] at h | rw [pS_62] at h | rw [pS_63] at h | rw [pS_64] at h | rw [pS_65] at h | rw [pS_66] at h | rw [pS_67] at h)
    (have h0 := kII_i h); clear h; obtain ⟨v, w, r, rfl, h⟩ := h0
    have hr2 := (okL_c.mp (okL_c.mp hst).2).2
    exact lv_iadd hx hb hd (go _ _ h (okL_c.mpr ⟨trivial, hr2⟩))
  case isub =>
    simp only [ilen, Nat.beq_eq] at hlen
    simp only [okI, Bool.and_eq_true, Bool.or_eq_true, Nat.beq_eq, Nat.blt_eq, Nat.ble_eq, decide_eq_true_eq, beq_iff_eq] at hok
    obtain ⟨rfl, rfl⟩ := hok
    subst hlen
    (first | rw [pS_0] at h | rw [pS_1] at h | rw [pS_2] at h | rw [pS_3] at h | rw [pS_4] at h | rw [pS_5] at h | rw [pS_6] at h | rw [pS_7] at h | rw [pS_8] at h | rw [pS_9] at h | rw [pS_10] at h | rw [pS_11] at h | rw [pS_12] at h | rw [pS_13] at h | rw [pS_14] at h | rw [pS_15] at h | rw [pS_16] at h | rw [pS_17] at h | rw [pS_18] at h | rw [pS_19] at h | rw [pS_20] at h | rw [pS_21] at h | rw [pS_22] at h | rw [pS_23] at h | rw [pS_24] at h | rw [pS_25] at h | rw [pS_26] at h | rw [pS_27] at h | rw [pS_28] at h | rw [pS_29] at h | rw [pS_30] at h | rw [pS_31] at h | rw [pS_32] at h | rw [pS_33] at h | rw [pS_34] at h | rw [pS_35] at h | rw [pS_36] at h | rw [pS_37] at h | rw [pS_38] at h | rw [pS_39] at h | rw [pS_40] at h | rw [pS_41] at h | rw [pS_42] at h | rw [pS_43] at h | rw [pS_44] at h | rw [pS_45] at h | rw [pS_46] at h | rw [pS_47] at h | rw [pS_48] at h | rw [pS_49] at h | rw [pS_50] at h | rw [pS_51] at h | rw [pS_52] at h | rw [pS_53] at h | rw [pS_54] at h | rw [pS_55] at h | rw [pS_56] at h | rw [pS_57] at h | rw [pS_58] at h | rw [pS_59] at h | rw [pS_60] at h | rw [pS_61] at h | rw [pS_62] at h | rw [pS_63] at h | rw [pS_64] at h | rw [pS_65] at h | rw [pS_66] at h | rw [pS_67] at h)
    (have h0 := kII_i h); clear h; obtain ⟨v, w, r, rfl, h⟩ := h0
    have hr2 := (okL_c.mp (okL_c.mp hst).2).2
    exact lv_isub hx hb hd (go _ _ h (okL_c.mpr ⟨trivial, hr2⟩))
  case imul =>
    simp only [ilen, Nat.beq_eq] at hlen
    simp only [okI, Bool.and_eq_true, Bool.or_eq_true, Nat.beq_eq, Nat.blt_eq, Nat.ble_eq, decide_eq_true_eq, beq_iff_eq] at hok
    obtain ⟨rfl, rfl⟩ := hok
    subst hlen
    (first | rw [pS_0] at h | rw [pS_1] at h | rw [pS_2] at h | rw [pS_3] at h | rw [pS_4] at h | rw [pS_5] at h | rw [pS_6] at h | rw [pS_7] at h | rw [pS_8] at h | rw [pS_9] at h | rw [pS_10] at h | rw [pS_11] at h | rw [pS_12] at h | rw [pS_13] at h | rw [pS_14] at h | rw [pS_15] at h | rw [pS_16] at h | rw [pS_17] at h | rw [pS_18] at h | rw [pS_19] at h | rw [pS_20] at h | rw [pS_21] at h | rw [pS_22] at h | rw [pS_23] at h | rw [pS_24] at h | rw [pS_25] at h | rw [pS_26] at h | rw [pS_27] at h | rw [pS_28] at h | rw [pS_29] at h | rw [pS_30] at h | rw [pS_31] at h | rw [pS_32] at h | rw [pS_33] at h | rw [pS_34] at h | rw [pS_35] at h | rw [pS_36] at h | rw [pS_37] at h | rw [pS_38] at h | rw [pS_39] at h | rw [pS_40] at h | rw [pS_41] at h | rw [pS_42] at h | rw [pS_43] at h | rw [pS_44] at h | rw [pS_45] at h | rw [pS_46] at h | rw [pS_47] at h | rw [pS_48] at h | rw [pS_49] at h | rw [pS_50] at h | rw [pS_51] at h | rw [pS_52] at h | rw [pS_53] at h | rw [pS_54] at h | rw [pS_55] at h | rw [pS_56] at h | rw [pS_57] at h | rw [pS_58] at h | rw [pS_59] at h | rw [pS_60] at h | rw [pS_61] at h | rw [pS_62] at h | rw [pS_63] at h | rw [pS_64] at h | rw [pS_65] at h | rw [pS_66] at h | rw [pS_67] at h)
    (have h0 := kII_i h); clear h; obtain ⟨v, w, r, rfl, h⟩ := h0
    have hr2 := (okL_c.mp (okL_c.mp hst).2).2
    exact lv_imul hx hb hd (go _ _ h (okL_c.mpr ⟨trivial, hr2⟩))
  case ishl =>
    simp only [ilen, Nat.beq_eq] at hlen
    simp only [okI, Bool.and_eq_true, Bool.or_eq_true, Nat.beq_eq, Nat.blt_eq, Nat.ble_eq, decide_eq_true_eq, beq_iff_eq] at hok
    obtain ⟨rfl, rfl⟩ := hok
    subst hlen
    (first | rw [pS_0] at h | rw [pS_1] at h | rw [pS_2] at h | rw [pS_3] at h | rw [pS_4] at h | rw [pS_5] at h | rw [pS_6] at h | rw [pS_7] at h | rw [pS_8] at h | rw [pS_9] at h | rw [pS_10] at h | rw [pS_11] at h | rw [pS_12] at h | rw [pS_13] at h | rw [pS_14] at h | rw [pS_15] at h | rw [pS_16] at h | rw [pS_17] at h | rw [pS_18] at h | rw [pS_19] at h | rw [pS_20] at h | rw [pS_21] at h | rw [pS_22] at h | rw [pS_23] at h | rw [pS_24] at h | rw [pS_25] at h | rw [pS_26] at h | rw [pS_27] at h | rw [pS_28] at h | rw [pS_29] at h | rw [pS_30] at h | rw [pS_31] at h | rw [pS_32] at h | rw [pS_33] at h | rw [pS_34] at h | rw [pS_35] at h | rw [pS_36] at h | rw [pS_37] at h | rw [pS_38] at h | rw [pS_39] at h | rw [pS_40] at h | rw [pS_41] at h | rw [pS_42] at h | rw [pS_43] at h | rw [pS_44] at h | rw [pS_45] at h | rw [pS_46] at h | rw [pS_47] at h | rw [pS_48] at h | rw [pS_49] at h | rw [pS_50] at h | rw [pS_51] at h | rw [pS_52] at h | rw [pS_53] at h | rw [pS_54] at h | rw [pS_55] at h | rw [pS_56] at h | rw [pS_57] at h | rw [pS_58] at h | rw [pS_59] at h | rw [pS_60] at h | rw [pS_61] at h | rw [pS_62] at h | rw [pS_63] at h | rw [pS_64] at h | rw [pS_65] at h | rw [pS_66] at h | rw [pS_67] at h)
    (have h0 := kII_i h); clear h; obtain ⟨v, w, r, rfl, h⟩ := h0
    have hr2 := (okL_c.mp (okL_c.mp hst).2).2
    exact lv_ishl hx hb hd (go _ _ h (okL_c.mpr ⟨trivial, hr2⟩))
  case ishr =>
    simp only [ilen, Nat.beq_eq] at hlen
    simp only [okI, Bool.and_eq_true, Bool.or_eq_true, Nat.beq_eq, Nat.blt_eq, Nat.ble_eq, decide_eq_true_eq, beq_iff_eq] at hok
    obtain ⟨rfl, rfl⟩ := hok
    subst hlen
    (first | rw [pS_0] at h | rw [pS_1] at h | rw [pS_2] at h | rw [pS_3] at h | rw [pS_4] at h | rw [pS_5] at h | rw [pS_6] at h | rw [pS_7] at h | rw [pS_8] at h | rw [pS_9] at h | rw [pS_10] at h | rw [pS_11] at h | rw [pS_12] at h | rw [pS_13] at h | rw [pS_14] at h | rw [pS_15] at h | rw [pS_16] at h | rw [pS_17] at h | rw [pS_18] at h | rw [pS_19] at h | rw [pS_20] at h | rw [pS_21] at h | rw [pS_22] at h | rw [pS_23] at h | rw [pS_24] at h | rw [pS_25] at h | rw [pS_26] at h | rw [pS_27] at h | rw [pS_28] at h | rw [pS_29] at h | rw [pS_30] at h | rw [pS_31] at h | rw [pS_32] at h | rw [pS_33] at h | rw [pS_34] at h | rw [pS_35] at h | rw [pS_36] at h | rw [pS_37] at h | rw [pS_38] at h | rw [pS_39] at h | rw [pS_40] at h | rw [pS_41] at h | rw [pS_42] at h | rw [pS_43] at h | rw [pS_44] at h | rw [pS_45] at h | rw [pS_46] at h | rw [pS_47] at h | rw [pS_48] at h | rw [pS_49] at h | rw [pS_50] at h | rw [pS_51] at h | rw [pS_52] at h | rw [pS_53] at h | rw [pS_54] at h | rw [pS_55] at h | rw [pS_56] at h | rw [pS_57] at h | rw [pS_58] at h | rw [pS_59] at h | rw [pS_60] at h | rw [pS_61] at h | rw [pS_62] at h | rw [pS_63] at h | rw [pS_64] at h | rw [pS_65] at h | rw [pS_66] at h | rw [pS_67] at h)
    (have h0 := kII_i h); clear h; obtain ⟨v, w, r, rfl, h⟩ := h0
    have hr2 := (okL_c.mp (okL_c.mp hst).2).2
    exact lv_ishr hx hb hd (go _ _ h (okL_c.mpr ⟨trivial, hr2⟩))
  case iushr =>
    simp only [ilen, Nat.beq_eq] at hlen
    simp only [okI, Bool.and_eq_true, Bool.or_eq_true, Nat.beq_eq, Nat.blt_eq, Nat.ble_eq, decide_eq_true_eq, beq_iff_eq] at hok
    obtain ⟨rfl, rfl⟩ := hok
    subst hlen
    (first | rw [pS_0] at h | rw [pS_1] at h | rw [pS_2] at h | rw [pS_3] at h | rw [pS_4] at h | rw [pS_5] at h | rw [pS_6] at h | rw [pS_7] at h | rw [pS_8] at h | rw [pS_9] at h | rw [pS_10] at h | rw [pS_11] at h | rw [pS_12] at h | rw [pS_13] at h | rw [pS_14] at h | rw [pS_15] at h | rw [pS_16] at h | rw [pS_17] at h | rw [pS_18] at h | rw [pS_19] at h | rw [pS_20] at h | rw [pS_21] at h | rw [pS_22] at h | rw [pS_23] at h | rw [pS_24] at h | rw [pS_25] at h | rw [pS_26] at h | rw [pS_27] at h | rw [pS_28] at h | rw [pS_29] at h | rw [pS_30] at h | rw [pS_31] at h | rw [pS_32] at h | rw [pS_33] at h | rw [pS_34] at h | rw [pS_35] at h | rw [pS_36] at h | rw [pS_37] at h | rw [pS_38] at h | rw [pS_39] at h | rw [pS_40] at h | rw [pS_41] at h | rw [pS_42] at h | rw [pS_43] at h | rw [pS_44] at h | rw [pS_45] at h | rw [pS_46] at h | rw [pS_47] at h | rw [pS_48] at h | rw [pS_49] at h | rw [pS_50] at h | rw [pS_51] at h | rw [pS_52] at h | rw [pS_53] at h | rw [pS_54] at h | rw [pS_55] at h | rw [pS_56] at h | rw [pS_57] at h | rw [pS_58] at h | rw [pS_59] at h | rw [pS_60] at h | rw [pS_61] at h | rw [pS_62] at h | rw [pS_63] at h | rw [pS_64] at h | rw [pS_65] at h | rw [pS_66] at h | rw [pS_67] at h)
    (have h0 := kII_i h); clear h; obtain ⟨v, w, r, rfl, h⟩ := h0
    have hr2 := (okL_c.mp (okL_c.mp hst).2).2
    exact lv_iushr hx hb hd rfl (go _ _ h (okL_c.mpr ⟨trivial, hr2⟩))
  case iand =>
    simp only [ilen, Nat.beq_eq] at hlen
    simp only [okI, Bool.and_eq_true, Bool.or_eq_true, Nat.beq_eq, Nat.blt_eq, Nat.ble_eq, decide_eq_true_eq, beq_iff_eq] at hok
    obtain ⟨rfl, rfl⟩ := hok
    subst hlen
    (first | rw [pS_0] at h | rw [pS_1] at h | rw [pS_2] at h | rw [pS_3] at h | rw [pS_4] at h | rw [pS_5] at h | rw [pS_6] at h | rw [pS_7] at h | rw [pS_8] at h | rw [pS_9] at h | rw [pS_10] at h | rw [pS_11] at h | rw [pS_12] at h | rw [pS_13] at h | rw [pS_14] at h | rw [pS_15] at h | rw [pS_16] at h | rw [pS_17] at h | rw [pS_18] at h | rw [pS_19] at h | rw [pS_20] at h | rw [pS_21] at h | rw [pS_22] at h | rw [pS_23] at h | rw [pS_24] at h | rw [pS_25] at h | rw [pS_26] at h | rw [pS_27] at h | rw [pS_28] at h | rw [pS_29] at h | rw [pS_30] at h | rw [pS_31] at h | rw [pS_32] at h | rw [pS_33] at h | rw [pS_34] at h | rw [pS_35] at h | rw [pS_36] at h | rw [pS_37] at h | rw [pS_38] at h | rw [pS_39] at h | rw [pS_40] at h | rw [pS_41] at h | rw [pS_42] at h | rw [pS_43] at h | rw [pS_44] at h | rw [pS_45] at h | rw [pS_46] at h | rw [pS_47] at h | rw [pS_48] at h | rw [pS_49] at h | rw [pS_50] at h | rw [pS_51] at h | rw [pS_52] at h | rw [pS_53] at h | rw [pS_54] at h | rw [pS_55] at h | rw [pS_56] at h | rw [pS_57] at h | rw [pS_58] at h | rw [pS_59] at h | rw [pS_60] at h | rw [pS_61] at h | rw [pS_62] at h | rw [pS_63] at h | rw [pS_64] at h | rw [pS_65] at h | rw [pS_66] at h | rw [pS_67] at h)
    (have h0 := kII_i h); clear h; obtain ⟨v, w, r, rfl, h⟩ := h0
    have hr2 := (okL_c.mp (okL_c.mp hst).2).2
    exact lv_iand hx hb hd (go _ _ h (okL_c.mpr ⟨trivial, hr2⟩))
  case ior =>
    simp only [ilen, Nat.beq_eq] at hlen
    simp only [okI, Bool.and_eq_true, Bool.or_eq_true, Nat.beq_eq, Nat.blt_eq, Nat.ble_eq, decide_eq_true_eq, beq_iff_eq] at hok
    obtain ⟨rfl, rfl⟩ := hok
    subst hlen
    (first | rw [pS_0] at h | rw [pS_1] at h | rw [pS_2] at h | rw [pS_3] at h | rw [pS_4] at h | rw [pS_5] at h | rw [pS_6] at h | rw [pS_7] at h | rw [pS_8] at h | rw [pS_9] at h | rw [pS_10] at h | rw [pS_11] at h | rw [pS_12] at h | rw [pS_13] at h | rw [pS_14] at h | rw [pS_15] at h | rw [pS_16] at h | rw [pS_17] at h | rw [pS_18] at h | rw [pS_19] at h | rw [pS_20] at h | rw [pS_21] at h | rw [pS_22] at h | rw [pS_23] at h | rw [pS_24] at h | rw [pS_25] at h | rw [pS_26] at h | rw [pS_27] at h | rw [pS_28] at h | rw [pS_29] at h | rw [pS_30] at h | rw [pS_31] at h | rw [pS_32] at h | rw [pS_33] at h | rw [pS_34] at h | rw [pS_35] at h | rw [pS_36] at h | rw [pS_37] at h | rw [pS_38] at h | rw [pS_39] at h | rw [pS_40] at h | rw [pS_41] at h | rw [pS_42] at h | rw [pS_43] at h | rw [pS_44] at h | rw [pS_45] at h | rw [pS_46] at h | rw [pS_47] at h | rw [pS_48] at h | rw [pS_49] at h | rw [pS_50] at h | rw [pS_51] at h | rw [pS_52] at h | rw [pS_53] at h | rw [pS_54] at h | rw [pS_55] at h | rw [pS_56] at h | rw [pS_57] at h | rw [pS_58] at h | rw [pS_59] at h | rw [pS_60] at h | rw [pS_61] at h | rw [pS_62] at h | rw [pS_63] at h | rw [pS_64] at h | rw [pS_65] at h | rw [pS_66] at h | rw [pS_67] at h)
    (have h0 := kII_i h); clear h; obtain ⟨v, w, r, rfl, h⟩ := h0
    have hr2 := (okL_c.mp (okL_c.mp hst).2).2
    exact lv_ior hx hb hd (go _ _ h (okL_c.mpr ⟨trivial, hr2⟩))
  case ixor =>
    simp only [ilen, Nat.beq_eq] at hlen
    simp only [okI, Bool.and_eq_true, Bool.or_eq_true, Nat.beq_eq, Nat.blt_eq, Nat.ble_eq, decide_eq_true_eq, beq_iff_eq] at hok
    obtain ⟨rfl, rfl⟩ := hok
    subst hlen
    (first | rw [pS_0] at h | rw [pS_1] at h | rw [pS_2] at h | rw [pS_3] at h | rw [pS_4] at h | rw [pS_5] at h | rw [pS_6] at h | rw [pS_7] at h | rw [pS_8] at h | rw [pS_9] at h | rw [pS_10] at h | rw [pS_11] at h | rw [pS_12] at h | rw [pS_13] at h | rw [pS_14] at h | rw [pS_15] at h | rw [pS_16] at h | rw [pS_17] at h | rw [pS_18] at h | rw [pS_19] at h | rw [pS_20] at h | rw [pS_21] at h | rw [pS_22] at h | rw [pS_23] at h | rw [pS_24] at h | rw [pS_25] at h | rw [pS_26] at h | rw [pS_27] at h | rw [pS_28] at h | rw [pS_29] at h | rw [pS_30] at h | rw [pS_31] at h | rw [pS_32] at h | rw [pS_33] at h | rw [pS_34] at h | rw [pS_35] at h | rw [pS_36] at h | rw [pS_37] at h | rw [pS_38] at h | rw [pS_39] at h | rw [pS_40] at h | rw [pS_41] at h | rw [pS_42] at h | rw [pS_43] at h | rw [pS_44] at h | rw [pS_45] at h | rw [pS_46] at h | rw [pS_47] at h | rw [pS_48] at h | rw [pS_49] at h | rw [pS_50] at h | rw [pS_51] at h | rw [pS_52] at h | rw [pS_53] at h | rw [pS_54] at h | rw [pS_55] at h | rw [pS_56] at h | rw [pS_57] at h | rw [pS_58] at h | rw [pS_59] at h | rw [pS_60] at h | rw [pS_61] at h | rw [pS_62] at h | rw [pS_63] at h | rw [pS_64] at h | rw [pS_65] at h | rw [pS_66] at h | rw [pS_67] at h)
    (have h0 := kII_i h); clear h; obtain ⟨v, w, r, rfl, h⟩ := h0
    have hr2 := (okL_c.mp (okL_c.mp hst).2).2
    exact lv_ixor hx hb hd (go _ _ h (okL_c.mpr ⟨trivial, hr2⟩))
  case idiv =>
    simp only [ilen, Nat.beq_eq] at hlen
    simp only [okI, Bool.and_eq_true, Bool.or_eq_true, Nat.beq_eq, Nat.blt_eq, Nat.ble_eq, decide_eq_true_eq, beq_iff_eq] at hok
    subst hok
    subst hlen
    (first | rw [pS_0] at h | rw [pS_1] at h | rw [pS_2] at h | rw [pS_3] at h | rw [pS_4] at h | rw [pS_5] at h | rw [pS_6] at h | rw [pS_7] at h | rw [pS_8] at h | rw [pS_9] at h | rw [pS_10] at h | rw [pS_11] at h | rw [pS_12] at h | rw [pS_13] at h | rw [pS_14] at h | rw [pS_15] at h | rw [pS_16] at h | rw [pS_17] at h | rw [pS_18] at h | rw [pS_19] at h | rw [pS_20] at h | rw [pS_21] at h | rw [pS_22] at h | rw [pS_23] at h | rw [pS_24] at h | rw [pS_25] at h | rw [pS_26] at h | rw [pS_27] at h | rw [pS_28] at h | rw [pS_29] at h | rw [pS_30] at h | rw [pS_31] at h | rw [pS_32] at h | rw [pS_33] at h | rw [pS_34] at h | rw [pS_35] at h | rw [pS_36] at h | rw [pS_37] at h | rw [pS_38] at h | rw [pS_39] at h | rw [pS_40] at h | rw [pS_41] at h | rw [pS_42] at h | rw [pS_43] at h | rw [pS_44] at h | rw [pS_45] at h | rw [pS_46] at h | rw [pS_47] at h | rw [pS_48] at h | rw [pS_49] at h | rw [pS_50] at h | rw [pS_51] at h | rw [pS_52] at h | rw [pS_53] at h | rw [pS_54] at h | rw [pS_55] at h | rw [pS_56] at h | rw [pS_57] at h | rw [pS_58] at h | rw [pS_59] at h | rw [pS_60] at h | rw [pS_61] at h | rw [pS_62] at h | rw [pS_63] at h | rw [pS_64] at h | rw [pS_65] at h | rw [pS_66] at h | rw [pS_67] at h)
    (have h0 := kII_i h); clear h; obtain ⟨v, w, r, rfl, h⟩ := h0
    obtain ⟨hne, h⟩ := if_i h
    have hr2 := (okL_c.mp (okL_c.mp hst).2).2
    exact lv_idiv hx hb hd hne (go _ _ h (okL_c.mpr ⟨trivial, hr2⟩))
  case irem =>
    simp only [ilen, Nat.beq_eq] at hlen
    simp only [okI, Bool.and_eq_true, Bool.or_eq_true, Nat.beq_eq, Nat.blt_eq, Nat.ble_eq, decide_eq_true_eq, beq_iff_eq] at hok
    subst hok
    subst hlen
    (first | rw [pS_0] at h | rw [pS_1] at h | rw [pS_2] at h | rw [pS_3] at h | rw [pS_4] at h | rw [pS_5] at h | rw [pS_6] at h | rw [pS_7] at h | rw [pS_8] at h | rw [pS_9] at h | rw [pS_10] at h | rw [pS_11] at h | rw [pS_12] at h | rw [pS_13] at h | rw [pS_14] at h | rw [pS_15] at h | rw [pS_16] at h | rw [pS_17] at h | rw [pS_18] at h | rw [pS_19] at h | rw [pS_20] at h | rw [pS_21] at h | rw [pS_22] at h | rw [pS_23] at h | rw [pS_24] at h | rw [pS_25] at h | rw [pS_26] at h | rw [pS_27] at h | rw [pS_28] at h | rw [pS_29] at h | rw [pS_30] at h | rw [pS_31] at h | rw [pS_32] at h | rw [pS_33] at h | rw [pS_34] at h | rw [pS_35] at h | rw [pS_36] at h | rw [pS_37] at h | rw [pS_38] at h | rw [pS_39] at h | rw [pS_40] at h | rw [pS_41] at h | rw [pS_42] at h | rw [pS_43] at h | rw [pS_44] at h | rw [pS_45] at h | rw [pS_46] at h | rw [pS_47] at h | rw [pS_48] at h | rw [pS_49] at h | rw [pS_50] at h | rw [pS_51] at h | rw [pS_52] at h | rw [pS_53] at h | rw [pS_54] at h | rw [pS_55] at h | rw [pS_56] at h | rw [pS_57] at h | rw [pS_58] at h | rw [pS_59] at h | rw [pS_60] at h | rw [pS_61] at h | rw [pS_62] at h | rw [pS_63] at h | rw [pS_64] at h | rw [pS_65] at h | rw [pS_66] at h | rw [pS_67] at h)
    (have h0 := kII_i h); clear h; obtain ⟨v, w, r, rfl, h⟩ := h0
    obtain ⟨hne, h⟩ := if_i h
    have hr2 := (okL_c.mp (okL_c.mp hst).2).2
    exact lv_irem hx hb hd hne (go _ _ h (okL_c.mpr ⟨trivial, hr2⟩))
  case ldiv =>
    simp only [ilen, Nat.beq_eq] at hlen
    simp only [okI, Bool.and_eq_true, Bool.or_eq_true, Nat.beq_eq, Nat.blt_eq, Nat.ble_eq, decide_eq_true_eq, beq_iff_eq] at hok
    subst hok
    subst hlen
    (first | rw [pS_0] at h | rw [pS_1] at h | rw [pS_2] at h | rw [pS_3] at h | rw [pS_4] at h | rw [pS_5] at h | rw [pS_6] at h | rw [pS_7] at h | rw [pS_8] at h | rw [pS_9] at h | rw [pS_10] at h | rw [pS_11] at h | rw [pS_12] at h | rw [pS_13] at h | rw [pS_14] at h | rw [pS_15] at h | rw [pS_16] at h | rw [pS_17] at h | rw [pS_18] at h | rw [pS_19] at h | rw [pS_20] at h | rw [pS_21] at h | rw [pS_22] at h | rw [pS_23] at h | rw [pS_24] at h | rw [pS_25] at h | rw [pS_26] at h | rw [pS_27] at h | rw [pS_28] at h | rw [pS_29] at h | rw [pS_30] at h | rw [pS_31] at h | rw [pS_32] at h | rw [pS_33] at h | rw [pS_34] at h | rw [pS_35] at h | rw [pS_36] at h | rw [pS_37] at h | rw [pS_38] at h | rw [pS_39] at h | rw [pS_40] at h | rw [pS_41] at h | rw [pS_42] at h | rw [pS_43] at h | rw [pS_44] at h | rw [pS_45] at h | rw [pS_46] at h | rw [pS_47] at h | rw [pS_48] at h | rw [pS_49] at h | rw [pS_50] at h | rw [pS_51] at h | rw [pS_52] at h | rw [pS_53] at h | rw [pS_54] at h | rw [pS_55] at h | rw [pS_56] at h | rw [pS_57] at h | rw [pS_58] at h | rw [pS_59] at h | rw [pS_60] at h | rw [pS_61] at h | rw [pS_62] at h | rw [pS_63] at h | rw [pS_64] at h | rw [pS_65] at h | rw [pS_66] at h | rw [pS_67] at h)
    (have h0 := kJJ_i h); clear h; obtain ⟨v, w, r, rfl, h⟩ := h0
    obtain ⟨hne, h⟩ := if_i h
    have hr2 := (okL_c.mp (okL_c.mp hst).2).2
    exact lv_ldiv hx hb hd hne (go _ _ h (okL_c.mpr ⟨trivial, hr2⟩))
  case lrem =>
    simp only [ilen, Nat.beq_eq] at hlen
    simp only [okI, Bool.and_eq_true, Bool.or_eq_true, Nat.beq_eq, Nat.blt_eq, Nat.ble_eq, decide_eq_true_eq, beq_iff_eq] at hok
    subst hok
    subst hlen
    (first | rw [pS_0] at h | rw [pS_1] at h | rw [pS_2] at h | rw [pS_3] at h | rw [pS_4] at h | rw [pS_5] at h | rw [pS_6] at h | rw [pS_7] at h | rw [pS_8] at h | rw [pS_9] at h | rw [pS_10] at h | rw [pS_11] at h | rw [pS_12] at h | rw [pS_13] at h | rw [pS_14] at h | rw [pS_15] at h | rw [pS_16] at h | rw [pS_17] at h | rw [pS_18] at h | rw [pS_19] at h | rw [pS_20] at h | rw [pS_21] at h | rw [pS_22] at h | rw [pS_23] at h | rw [pS_24] at h | rw [pS_25] at h | rw [pS_26] at h | rw [pS_27] at h | rw [pS_28] at h | rw [pS_29] at h | rw [pS_30] at h | rw [pS_31] at h | rw [pS_32] at h | rw [pS_33] at h | rw [pS_34] at h | rw [pS_35] at h | rw [pS_36] at h | rw [pS_37] at h | rw [pS_38] at h | rw [pS_39] at h | rw [pS_40] at h | rw [pS_41] at h | rw [pS_42] at h | rw [pS_43] at h | rw [pS_44] at h | rw [pS_45] at h | rw [pS_46] at h | rw [pS_47] at h | rw [pS_48] at h | rw [pS_49] at h | rw [pS_50] at h | rw [pS_51] at h | rw [pS_52] at h | rw [pS_53] at h | rw [pS_54] at h | rw [pS_55] at h | rw [pS_56] at h | rw [pS_57] at h | rw [pS_58] at h | rw [pS_59] at h | rw [pS_60] at h | rw [pS_61] at h | rw [pS_62] at h | rw [pS_63] at h | rw [pS_64] at h | rw [pS_65] at h | rw [pS_66] at h | rw [pS_67] at h)
    (have h0 := kJJ_i h); clear h; obtain ⟨v, w, r, rfl, h⟩ := h0
    obtain ⟨hne, h⟩ := if_i h
    have hr2 := (okL_c.mp (okL_c.mp hst).2).2
    exact lv_lrem hx hb hd hne (go _ _ h (okL_c.mpr ⟨trivial, hr2⟩))
  case lmul =>
    simp only [ilen, Nat.beq_eq] at hlen
    simp only [okI, Bool.and_eq_true, Bool.or_eq_true, Nat.beq_eq, Nat.blt_eq, Nat.ble_eq, decide_eq_true_eq, beq_iff_eq] at hok
    subst hok
    subst hlen
    (first | rw [pS_0] at h | rw [pS_1] at h | rw [pS_2] at h | rw [pS_3] at h | rw [pS_4] at h | rw [pS_5] at h | rw [pS_6] at h | rw [pS_7] at h | rw [pS_8] at h | rw [pS_9] at h | rw [pS_10] at h | rw [pS_11] at h | rw [pS_12] at h | rw [pS_13] at h | rw [pS_14] at h | rw [pS_15] at h | rw [pS_16] at h | rw [pS_17] at h | rw [pS_18] at h | rw [pS_19] at h | rw [pS_20] at h | rw [pS_21] at h | rw [pS_22] at h | rw [pS_23] at h | rw [pS_24] at h | rw [pS_25] at h | rw [pS_26] at h | rw [pS_27] at h | rw [pS_28] at h | rw [pS_29] at h | rw [pS_30] at h | rw [pS_31] at h | rw [pS_32] at h | rw [pS_33] at h | rw [pS_34] at h | rw [pS_35] at h | rw [pS_36] at h | rw [pS_37] at h | rw [pS_38] at h | rw [pS_39] at h | rw [pS_40] at h | rw [pS_41] at h | rw [pS_42] at h | rw [pS_43] at h | rw [pS_44] at h | rw [pS_45] at h | rw [pS_46] at h | rw [pS_47] at h | rw [pS_48] at h | rw [pS_49] at h | rw [pS_50] at h | rw [pS_51] at h | rw [pS_52] at h | rw [pS_53] at h | rw [pS_54] at h | rw [pS_55] at h | rw [pS_56] at h | rw [pS_57] at h | rw [pS_58] at h | rw [pS_59] at h | rw [pS_60] at h | rw [pS_61] at h | rw [pS_62] at h | rw [pS_63] at h | rw [pS_64] at h | rw [pS_65] at h | rw [pS_66] at h | rw [pS_67] at h)
    (have h0 := kJJ_i h); clear h; obtain ⟨v, w, r, rfl, h⟩ := h0
    have hr2 := (okL_c.mp (okL_c.mp hst).2).2
    exact lv_lmul hx hb hd (go _ _ h (okL_c.mpr ⟨trivial, hr2⟩))
  case i2l =>
    simp only [ilen, Nat.beq_eq] at hlen
    simp only [okI, Bool.and_eq_true, Bool.or_eq_true, Nat.beq_eq, Nat.blt_eq, Nat.ble_eq, decide_eq_true_eq, beq_iff_eq] at hok
    subst hok
    subst hlen
    (first | rw [pS_0] at h | rw [pS_1] at h | rw [pS_2] at h | rw [pS_3] at h | rw [pS_4] at h | rw [pS_5] at h | rw [pS_6] at h | rw [pS_7] at h | rw [pS_8] at h | rw [pS_9] at h | rw [pS_10] at h | rw [pS_11] at h | rw [pS_12] at h | rw [pS_13] at h | rw [pS_14] at h | rw [pS_15] at h | rw [pS_16] at h | rw [pS_17] at h | rw [pS_18] at h | rw [pS_19] at h | rw [pS_20] at h | rw [pS_21] at h | rw [pS_22] at h | rw [pS_23] at h | rw [pS_24] at h | rw [pS_25] at h | rw [pS_26] at h | rw [pS_27] at h | rw [pS_28] at h | rw [pS_29] at h | rw [pS_30] at h | rw [pS_31] at h | rw [pS_32] at h | rw [pS_33] at h | rw [pS_34] at h | rw [pS_35] at h | rw [pS_36] at h | rw [pS_37] at h | rw [pS_38] at h | rw [pS_39] at h | rw [pS_40] at h | rw [pS_41] at h | rw [pS_42] at h | rw [pS_43] at h | rw [pS_44] at h | rw [pS_45] at h | rw [pS_46] at h | rw [pS_47] at h | rw [pS_48] at h | rw [pS_49] at h | rw [pS_50] at h | rw [pS_51] at h | rw [pS_52] at h | rw [pS_53] at h | rw [pS_54] at h | rw [pS_55] at h | rw [pS_56] at h | rw [pS_57] at h | rw [pS_58] at h | rw [pS_59] at h | rw [pS_60] at h | rw [pS_61] at h | rw [pS_62] at h | rw [pS_63] at h | rw [pS_64] at h | rw [pS_65] at h | rw [pS_66] at h | rw [pS_67] at h)
    (have h0 := kI_i h); clear h; obtain ⟨v, r, rfl, h⟩ := h0
    exact lv_i2l hx hb hd rfl (go _ _ h (okL_c.mpr ⟨trivial, (okL_c.mp hst).2⟩))
  case l2i =>
    simp only [ilen, Nat.beq_eq] at hlen
    simp only [okI, Bool.and_eq_true, Bool.or_eq_true, Nat.beq_eq, Nat.blt_eq, Nat.ble_eq, decide_eq_true_eq, beq_iff_eq] at hok
    subst hok
    subst hlen
    (first | rw [pS_0] at h | rw [pS_1] at h | rw [pS_2] at h | rw [pS_3] at h | rw [pS_4] at h | rw [pS_5] at h | rw [pS_6] at h | rw [pS_7] at h | rw [pS_8] at h | rw [pS_9] at h | rw [pS_10] at h | rw [pS_11] at h | rw [pS_12] at h | rw [pS_13] at h | rw [pS_14] at h | rw [pS_15] at h | rw [pS_16] at h | rw [pS_17] at h | rw [pS_18] at h | rw [pS_19] at h | rw [pS_20] at h | rw [pS_21] at h | rw [pS_22] at h | rw [pS_23] at h | rw [pS_24] at h | rw [pS_25] at h | rw [pS_26] at h | rw [pS_27] at h | rw [pS_28] at h | rw [pS_29] at h | rw [pS_30] at h | rw [pS_31] at h | rw [pS_32] at h | rw [pS_33] at h | rw [pS_34] at h | rw [pS_35] at h | rw [pS_36] at h | rw [pS_37] at h | rw [pS_38] at h | rw [pS_39] at h | rw [pS_40] at h | rw [pS_41] at h | rw [pS_42] at h | rw [pS_43] at h | rw [pS_44] at h | rw [pS_45] at h | rw [pS_46] at h | rw [pS_47] at h | rw [pS_48] at h | rw [pS_49] at h | rw [pS_50] at h | rw [pS_51] at h | rw [pS_52] at h | rw [pS_53] at h | rw [pS_54] at h | rw [pS_55] at h | rw [pS_56] at h | rw [pS_57] at h | rw [pS_58] at h | rw [pS_59] at h | rw [pS_60] at h | rw [pS_61] at h | rw [pS_62] at h | rw [pS_63] at h | rw [pS_64] at h | rw [pS_65] at h | rw [pS_66] at h | rw [pS_67] at h)
    (have h0 := kJ_i h); clear h; obtain ⟨v, r, rfl, h⟩ := h0
    exact lv_l2i hx hb hd rfl (go _ _ h (okL_c.mpr ⟨trivial, (okL_c.mp hst).2⟩))
  case lcmp =>
    simp only [ilen, Nat.beq_eq] at hlen
    simp only [okI, Bool.and_eq_true, Bool.or_eq_true, Nat.beq_eq, Nat.blt_eq, Nat.ble_eq, decide_eq_true_eq, beq_iff_eq] at hok
    subst hok
    subst hlen
    (first | rw [pS_0] at h | rw [pS_1] at h | rw [pS_2] at h | rw [pS_3] at h | rw [pS_4] at h | rw [pS_5] at h | rw [pS_6] at h | rw [pS_7] at h | rw [pS_8] at h | rw [pS_9] at h | rw [pS_10] at h | rw [pS_11] at h | rw [pS_12] at h | rw [pS_13] at h | rw [pS_14] at h | rw [pS_15] at h | rw [pS_16] at h | rw [pS_17] at h | rw [pS_18] at h | rw [pS_19] at h | rw [pS_20] at h | rw [pS_21] at h | rw [pS_22] at h | rw [pS_23] at h | rw [pS_24] at h | rw [pS_25] at h | rw [pS_26] at h | rw [pS_27] at h | rw [pS_28] at h | rw [pS_29] at h | rw [pS_30] at h | rw [pS_31] at h | rw [pS_32] at h | rw [pS_33] at h | rw [pS_34] at h | rw [pS_35] at h | rw [pS_36] at h | rw [pS_37] at h | rw [pS_38] at h | rw [pS_39] at h | rw [pS_40] at h | rw [pS_41] at h | rw [pS_42] at h | rw [pS_43] at h | rw [pS_44] at h | rw [pS_45] at h | rw [pS_46] at h | rw [pS_47] at h | rw [pS_48] at h | rw [pS_49] at h | rw [pS_50] at h | rw [pS_51] at h | rw [pS_52] at h | rw [pS_53] at h | rw [pS_54] at h | rw [pS_55] at h | rw [pS_56] at h | rw [pS_57] at h | rw [pS_58] at h | rw [pS_59] at h | rw [pS_60] at h | rw [pS_61] at h | rw [pS_62] at h | rw [pS_63] at h | rw [pS_64] at h | rw [pS_65] at h | rw [pS_66] at h | rw [pS_67] at h)
    (have h0 := kJJ_i h); clear h; obtain ⟨v, w, r, rfl, h⟩ := h0
    have hr2 := (okL_c.mp (okL_c.mp hst).2).2
    exact W.lcmp hx hb hd (go _ _ h (okL_c.mpr ⟨trivial, hr2⟩))
  case dup =>
    simp only [ilen, Nat.beq_eq] at hlen
    simp only [okI, Bool.and_eq_true, Bool.or_eq_true, Nat.beq_eq, Nat.blt_eq, Nat.ble_eq, decide_eq_true_eq, beq_iff_eq] at hok
    subst hok
    subst hlen
    (first | rw [pS_0] at h | rw [pS_1] at h | rw [pS_2] at h | rw [pS_3] at h | rw [pS_4] at h | rw [pS_5] at h | rw [pS_6] at h | rw [pS_7] at h | rw [pS_8] at h | rw [pS_9] at h | rw [pS_10] at h | rw [pS_11] at h | rw [pS_12] at h | rw [pS_13] at h | rw [pS_14] at h | rw [pS_15] at h | rw [pS_16] at h | rw [pS_17] at h | rw [pS_18] at h | rw [pS_19] at h | rw [pS_20] at h | rw [pS_21] at h | rw [pS_22] at h | rw [pS_23] at h | rw [pS_24] at h | rw [pS_25] at h | rw [pS_26] at h | rw [pS_27] at h | rw [pS_28] at h | rw [pS_29] at h | rw [pS_30] at h | rw [pS_31] at h | rw [pS_32] at h | rw [pS_33] at h | rw [pS_34] at h | rw [pS_35] at h | rw [pS_36] at h | rw [pS_37] at h | rw [pS_38] at h | rw [pS_39] at h | rw [pS_40] at h | rw [pS_41] at h | rw [pS_42] at h | rw [pS_43] at h | rw [pS_44] at h | rw [pS_45] at h | rw [pS_46] at h | rw [pS_47] at h | rw [pS_48] at h | rw [pS_49] at h | rw [pS_50] at h | rw [pS_51] at h | rw [pS_52] at h | rw [pS_53] at h | rw [pS_54] at h | rw [pS_55] at h | rw [pS_56] at h | rw [pS_57] at h | rw [pS_58] at h | rw [pS_59] at h | rw [pS_60] at h | rw [pS_61] at h | rw [pS_62] at h | rw [pS_63] at h | rw [pS_64] at h | rw [pS_65] at h | rw [pS_66] at h | rw [pS_67] at h)
    (have h0 := kV1_i h); clear h; obtain ⟨v, r, rfl, hv, h⟩ := h0
    have h2 := go _ _ h (okL_c.mpr ⟨(okL_c.mp hst).1, hst⟩)
    exact lv_dup hx hb hd (by rcases hv with ⟨y, rfl⟩ | ⟨y, rfl⟩ <;> rfl) h2
  case dup2 =>
    simp only [ilen, Nat.beq_eq] at hlen
    simp only [okI, Bool.and_eq_true, Bool.or_eq_true, Nat.beq_eq, Nat.blt_eq, Nat.ble_eq, decide_eq_true_eq, beq_iff_eq] at hok
    subst hok
    subst hlen
    (first | rw [pS_0] at h | rw [pS_1] at h | rw [pS_2] at h | rw [pS_3] at h | rw [pS_4] at h | rw [pS_5] at h | rw [pS_6] at h | rw [pS_7] at h | rw [pS_8] at h | rw [pS_9] at h | rw [pS_10] at h | rw [pS_11] at h | rw [pS_12] at h | rw [pS_13] at h | rw [pS_14] at h | rw [pS_15] at h | rw [pS_16] at h | rw [pS_17] at h | rw [pS_18] at h | rw [pS_19] at h | rw [pS_20] at h | rw [pS_21] at h | rw [pS_22] at h | rw [pS_23] at h | rw [pS_24] at h | rw [pS_25] at h | rw [pS_26] at h | rw [pS_27] at h | rw [pS_28] at h | rw [pS_29] at h | rw [pS_30] at h | rw [pS_31] at h | rw [pS_32] at h | rw [pS_33] at h | rw [pS_34] at h | rw [pS_35] at h | rw [pS_36] at h | rw [pS_37] at h | rw [pS_38] at h | rw [pS_39] at h | rw [pS_40] at h | rw [pS_41] at h | rw [pS_42] at h | rw [pS_43] at h | rw [pS_44] at h | rw [pS_45] at h | rw [pS_46] at h | rw [pS_47] at h | rw [pS_48] at h | rw [pS_49] at h | rw [pS_50] at h | rw [pS_51] at h | rw [pS_52] at h | rw [pS_53] at h | rw [pS_54] at h | rw [pS_55] at h | rw [pS_56] at h | rw [pS_57] at h | rw [pS_58] at h | rw [pS_59] at h | rw [pS_60] at h | rw [pS_61] at h | rw [pS_62] at h | rw [pS_63] at h | rw [pS_64] at h | rw [pS_65] at h | rw [pS_66] at h | rw [pS_67] at h)
    (have h0 := kIA_i h); clear h; obtain ⟨q, j, r, rfl, h⟩ := h0
    have h2 := go _ _ h (okL_c.mpr ⟨trivial, okL_c.mpr ⟨(okL_c.mp (okL_c.mp hst).2).1, hst⟩⟩)
    exact lv_dup2_11 hx hb hd rfl rfl h2
  case pop =>
    simp only [ilen, Nat.beq_eq] at hlen
    simp only [okI, Bool.and_eq_true, Bool.or_eq_true, Nat.beq_eq, Nat.blt_eq, Nat.ble_eq, decide_eq_true_eq, beq_iff_eq] at hok
    subst hok
    subst hlen
    (first | rw [pS_0] at h | rw [pS_1] at h | rw [pS_2] at h | rw [pS_3] at h | rw [pS_4] at h | rw [pS_5] at h | rw [pS_6] at h | rw [pS_7] at h | rw [pS_8] at h | rw [pS_9] at h | rw [pS_10] at h | rw [pS_11] at h | rw [pS_12] at h | rw [pS_13] at h | rw [pS_14] at h | rw [pS_15] at h | rw [pS_16] at h | rw [pS_17] at h | rw [pS_18] at h | rw [pS_19] at h | rw [pS_20] at h | rw [pS_21] at h | rw [pS_22] at h | rw [pS_23] at h | rw [pS_24] at h | rw [pS_25] at h | rw [pS_26] at h | rw [pS_27] at h | rw [pS_28] at h | rw [pS_29] at h | rw [pS_30] at h | rw [pS_31] at h | rw [pS_32] at h | rw [pS_33] at h | rw [pS_34] at h | rw [pS_35] at h | rw [pS_36] at h | rw [pS_37] at h | rw [pS_38] at h | rw [pS_39] at h | rw [pS_40] at h | rw [pS_41] at h | rw [pS_42] at h | rw [pS_43] at h | rw [pS_44] at h | rw [pS_45] at h | rw [pS_46] at h | rw [pS_47] at h | rw [pS_48] at h | rw [pS_49] at h | rw [pS_50] at h | rw [pS_51] at h | rw [pS_52] at h | rw [pS_53] at h | rw [pS_54] at h | rw [pS_55] at h | rw [pS_56] at h | rw [pS_57] at h | rw [pS_58] at h | rw [pS_59] at h | rw [pS_60] at h | rw [pS_61] at h | rw [pS_62] at h | rw [pS_63] at h | rw [pS_64] at h | rw [pS_65] at h | rw [pS_66] at h | rw [pS_67] at h)
    (have h0 := kV1_i h); clear h; obtain ⟨v, r, rfl, hv, h⟩ := h0
    exact lv_pop hx hb hd (by rcases hv with ⟨y, rfl⟩ | ⟨y, rfl⟩ <;> rfl) (go _ _ h (okL_c.mp hst).2)
  case aconst_null =>
    simp only [ilen, Nat.beq_eq] at hlen
    simp only [okI, Bool.and_eq_true, Bool.or_eq_true, Nat.beq_eq, Nat.blt_eq, Nat.ble_eq, decide_eq_true_eq, beq_iff_eq] at hok
    subst hok
    subst hlen
    (first | rw [pS_0] at h | rw [pS_1] at h | rw [pS_2] at h | rw [pS_3] at h | rw [pS_4] at h | rw [pS_5] at h | rw [pS_6] at h | rw [pS_7] at h | rw [pS_8] at h | rw [pS_9] at h | rw [pS_10] at h | rw [pS_11] at h | rw [pS_12] at h | rw [pS_13] at h | rw [pS_14] at h | rw [pS_15] at h | rw [pS_16] at h | rw [pS_17] at h | rw [pS_18] at h | rw [pS_19] at h | rw [pS_20] at h | rw [pS_21] at h | rw [pS_22] at h | rw [pS_23] at h | rw [pS_24] at h | rw [pS_25] at h | rw [pS_26] at h | rw [pS_27] at h | rw [pS_28] at h | rw [pS_29] at h | rw [pS_30] at h | rw [pS_31] at h | rw [pS_32] at h | rw [pS_33] at h | rw [pS_34] at h | rw [pS_35] at h | rw [pS_36] at h | rw [pS_37] at h | rw [pS_38] at h | rw [pS_39] at h | rw [pS_40] at h | rw [pS_41] at h | rw [pS_42] at h | rw [pS_43] at h | rw [pS_44] at h | rw [pS_45] at h | rw [pS_46] at h | rw [pS_47] at h | rw [pS_48] at h | rw [pS_49] at h | rw [pS_50] at h | rw [pS_51] at h | rw [pS_52] at h | rw [pS_53] at h | rw [pS_54] at h | rw [pS_55] at h | rw [pS_56] at h | rw [pS_57] at h | rw [pS_58] at h | rw [pS_59] at h | rw [pS_60] at h | rw [pS_61] at h | rw [pS_62] at h | rw [pS_63] at h | rw [pS_64] at h | rw [pS_65] at h | rw [pS_66] at h | rw [pS_67] at h)
    exact lv_null hx hb hd (go _ _ h (okL_c.mpr ⟨trivial, hst⟩))
  case goto zz =>
    simp only [ilen, Nat.beq_eq] at hlen
    simp only [okI, Bool.and_eq_true, Bool.or_eq_true, Nat.beq_eq, Nat.blt_eq, Nat.ble_eq, decide_eq_true_eq, beq_iff_eq] at hok
    obtain ⟨rfl, ht⟩ := hok
    subst hlen
    (first | rw [pS_0] at h | rw [pS_1] at h | rw [pS_2] at h | rw [pS_3] at h | rw [pS_4] at h | rw [pS_5] at h | rw [pS_6] at h | rw [pS_7] at h | rw [pS_8] at h | rw [pS_9] at h | rw [pS_10] at h | rw [pS_11] at h | rw [pS_12] at h | rw [pS_13] at h | rw [pS_14] at h | rw [pS_15] at h | rw [pS_16] at h | rw [pS_17] at h | rw [pS_18] at h | rw [pS_19] at h | rw [pS_20] at h | rw [pS_21] at h | rw [pS_22] at h | rw [pS_23] at h | rw [pS_24] at h | rw [pS_25] at h | rw [pS_26] at h | rw [pS_27] at h | rw [pS_28] at h | rw [pS_29] at h | rw [pS_30] at h | rw [pS_31] at h | rw [pS_32] at h | rw [pS_33] at h | rw [pS_34] at h | rw [pS_35] at h | rw [pS_36] at h | rw [pS_37] at h | rw [pS_38] at h | rw [pS_39] at h | rw [pS_40] at h | rw [pS_41] at h | rw [pS_42] at h | rw [pS_43] at h | rw [pS_44] at h | rw [pS_45] at h | rw [pS_46] at h | rw [pS_47] at h | rw [pS_48] at h | rw [pS_49] at h | rw [pS_50] at h | rw [pS_51] at h | rw [pS_52] at h | rw [pS_53] at h | rw [pS_54] at h | rw [pS_55] at h | rw [pS_56] at h | rw [pS_57] at h | rw [pS_58] at h | rw [pS_59] at h | rw [pS_60] at h | rw [pS_61] at h | rw [pS_62] at h | rw [pS_63] at h | rw [pS_64] at h | rw [pS_65] at h | rw [pS_66] at h | rw [pS_67] at h)
    exact lv_goto hx hb hd (of_decide_eq_true ht) (go _ _ h hst)
  case if_icmp cd zz =>
    simp only [ilen, Nat.beq_eq] at hlen
    cases cd
    · simp only [okI, Bool.and_eq_true, Bool.or_eq_true, Nat.beq_eq, Nat.blt_eq, Nat.ble_eq, decide_eq_true_eq, beq_iff_eq] at hok
      simp only [cdN, Nat.reduceAdd] at hok
      obtain ⟨rfl, ht⟩ := hok
      subst hlen
      (first | rw [pS_0] at h | rw [pS_1] at h | rw [pS_2] at h | rw [pS_3] at h | rw [pS_4] at h | rw [pS_5] at h | rw [pS_6] at h | rw [pS_7] at h | rw [pS_8] at h | rw [pS_9] at h | rw [pS_10] at h | rw [pS_11] at h | rw [pS_12] at h | rw [pS_13] at h | rw [pS_14] at h | rw [pS_15] at h | rw [pS_16] at h | rw [pS_17] at h | rw [pS_18] at h | rw [pS_19] at h | rw [pS_20] at h | rw [pS_21] at h | rw [pS_22] at h | rw [pS_23] at h | rw [pS_24] at h | rw [pS_25] at h | rw [pS_26] at h | rw [pS_27] at h | rw [pS_28] at h | rw [pS_29] at h | rw [pS_30] at h | rw [pS_31] at h | rw [pS_32] at h | rw [pS_33] at h | rw [pS_34] at h | rw [pS_35] at h | rw [pS_36] at h | rw [pS_37] at h | rw [pS_38] at h | rw [pS_39] at h | rw [pS_40] at h | rw [pS_41] at h | rw [pS_42] at h | rw [pS_43] at h | rw [pS_44] at h | rw [pS_45] at h | rw [pS_46] at h | rw [pS_47] at h | rw [pS_48] at h | rw [pS_49] at h | rw [pS_50] at h | rw [pS_51] at h | rw [pS_52] at h | rw [pS_53] at h | rw [pS_54] at h | rw [pS_55] at h | rw [pS_56] at h | rw [pS_57] at h | rw [pS_58] at h | rw [pS_59] at h | rw [pS_60] at h | rw [pS_61] at h | rw [pS_62] at h | rw [pS_63] at h | rw [pS_64] at h | rw [pS_65] at h | rw [pS_66] at h | rw [pS_67] at h)
      (have h0 := kII_i h); clear h; obtain ⟨v, w, r, rfl, h⟩ := h0
      have hr2 := (okL_c.mp (okL_c.mp hst).2).2
      refine lv_icmp_eq hx hb hd (of_decide_eq_true ht) (fun hc => go _ _ ?_ hr2) (fun hc => go _ _ ?_ hr2)
      · rw [if_pos hc] at h; exact h
      · rw [if_neg (hc)] at h; exact h
    · simp only [okI, Bool.and_eq_true, Bool.or_eq_true, Nat.beq_eq, Nat.blt_eq, Nat.ble_eq, decide_eq_true_eq, beq_iff_eq] at hok
      simp only [cdN, Nat.reduceAdd] at hok
      obtain ⟨rfl, ht⟩ := hok
      subst hlen
      (first | rw [pS_0] at h | rw [pS_1] at h | rw [pS_2] at h | rw [pS_3] at h | rw [pS_4] at h | rw [pS_5] at h | rw [pS_6] at h | rw [pS_7] at h | rw [pS_8] at h | rw [pS_9] at h | rw [pS_10] at h | rw [pS_11] at h | rw [pS_12] at h | rw [pS_13] at h | rw [pS_14] at h | rw [pS_15] at h | rw [pS_16] at h | rw [pS_17] at h | rw [pS_18] at h | rw [pS_19] at h | rw [pS_20] at h | rw [pS_21] at h | rw [pS_22] at h | rw [pS_23] at h | rw [pS_24] at h | rw [pS_25] at h | rw [pS_26] at h | rw [pS_27] at h | rw [pS_28] at h | rw [pS_29] at h | rw [pS_30] at h | rw [pS_31] at h | rw [pS_32] at h | rw [pS_33] at h | rw [pS_34] at h | rw [pS_35] at h | rw [pS_36] at h | rw [pS_37] at h | rw [pS_38] at h | rw [pS_39] at h | rw [pS_40] at h | rw [pS_41] at h | rw [pS_42] at h | rw [pS_43] at h | rw [pS_44] at h | rw [pS_45] at h | rw [pS_46] at h | rw [pS_47] at h | rw [pS_48] at h | rw [pS_49] at h | rw [pS_50] at h | rw [pS_51] at h | rw [pS_52] at h | rw [pS_53] at h | rw [pS_54] at h | rw [pS_55] at h | rw [pS_56] at h | rw [pS_57] at h | rw [pS_58] at h | rw [pS_59] at h | rw [pS_60] at h | rw [pS_61] at h | rw [pS_62] at h | rw [pS_63] at h | rw [pS_64] at h | rw [pS_65] at h | rw [pS_66] at h | rw [pS_67] at h)
      (have h0 := kII_i h); clear h; obtain ⟨v, w, r, rfl, h⟩ := h0
      have hr2 := (okL_c.mp (okL_c.mp hst).2).2
      refine lv_icmp_ne hx hb hd (of_decide_eq_true ht) (fun hc => go _ _ ?_ hr2) (fun hc => go _ _ ?_ hr2)
      · rw [if_pos hc] at h; exact h
      · rw [if_neg (fun hn => hn hc)] at h; exact h
    · simp only [okI, Bool.and_eq_true, Bool.or_eq_true, Nat.beq_eq, Nat.blt_eq, Nat.ble_eq, decide_eq_true_eq, beq_iff_eq] at hok
      simp only [cdN, Nat.reduceAdd] at hok
      obtain ⟨rfl, ht⟩ := hok
      subst hlen
      (first | rw [pS_0] at h | rw [pS_1] at h | rw [pS_2] at h | rw [pS_3] at h | rw [pS_4] at h | rw [pS_5] at h | rw [pS_6] at h | rw [pS_7] at h | rw [pS_8] at h | rw [pS_9] at h | rw [pS_10] at h | rw [pS_11] at h | rw [pS_12] at h | rw [pS_13] at h | rw [pS_14] at h | rw [pS_15] at h | rw [pS_16] at h | rw [pS_17] at h | rw [pS_18] at h | rw [pS_19] at h | rw [pS_20] at h | rw [pS_21] at h | rw [pS_22] at h | rw [pS_23] at h | rw [pS_24] at h | rw [pS_25] at h | rw [pS_26] at h | rw [pS_27] at h | rw [pS_28] at h | rw [pS_29] at h | rw [pS_30] at h | rw [pS_31] at h | rw [pS_32] at h | rw [pS_33] at h | rw [pS_34] at h | rw [pS_35] at h | rw [pS_36] at h | rw [pS_37] at h | rw [pS_38] at h | rw [pS_39] at h | rw [pS_40] at h | rw [pS_41] at h | rw [pS_42] at h | rw [pS_43] at h | rw [pS_44] at h | rw [pS_45] at h | rw [pS_46] at h | rw [pS_47] at h | rw [pS_48] at h | rw [pS_49] at h | rw [pS_50] at h | rw [pS_51] at h | rw [pS_52] at h | rw [pS_53] at h | rw [pS_54] at h | rw [pS_55] at h | rw [pS_56] at h | rw [pS_57] at h | rw [pS_58] at h | rw [pS_59] at h | rw [pS_60] at h | rw [pS_61] at h | rw [pS_62] at h | rw [pS_63] at h | rw [pS_64] at h | rw [pS_65] at h | rw [pS_66] at h | rw [pS_67] at h)
      (have h0 := kII_i h); clear h; obtain ⟨v, w, r, rfl, h⟩ := h0
      have hr2 := (okL_c.mp (okL_c.mp hst).2).2
      refine lv_icmp_lt hx hb hd (of_decide_eq_true ht) (fun hc => go _ _ ?_ hr2) (fun hc => go _ _ ?_ hr2)
      · rw [if_pos hc] at h; exact h
      · rw [if_neg (hc)] at h; exact h
    · simp only [okI, Bool.and_eq_true, Bool.or_eq_true, Nat.beq_eq, Nat.blt_eq, Nat.ble_eq, decide_eq_true_eq, beq_iff_eq] at hok
      simp only [cdN, Nat.reduceAdd] at hok
      obtain ⟨rfl, ht⟩ := hok
      subst hlen
      (first | rw [pS_0] at h | rw [pS_1] at h | rw [pS_2] at h | rw [pS_3] at h | rw [pS_4] at h | rw [pS_5] at h | rw [pS_6] at h | rw [pS_7] at h | rw [pS_8] at h | rw [pS_9] at h | rw [pS_10] at h | rw [pS_11] at h | rw [pS_12] at h | rw [pS_13] at h | rw [pS_14] at h | rw [pS_15] at h | rw [pS_16] at h | rw [pS_17] at h | rw [pS_18] at h | rw [pS_19] at h | rw [pS_20] at h | rw [pS_21] at h | rw [pS_22] at h | rw [pS_23] at h | rw [pS_24] at h | rw [pS_25] at h | rw [pS_26] at h | rw [pS_27] at h | rw [pS_28] at h | rw [pS_29] at h | rw [pS_30] at h | rw [pS_31] at h | rw [pS_32] at h | rw [pS_33] at h | rw [pS_34] at h | rw [pS_35] at h | rw [pS_36] at h | rw [pS_37] at h | rw [pS_38] at h | rw [pS_39] at h | rw [pS_40] at h | rw [pS_41] at h | rw [pS_42] at h | rw [pS_43] at h | rw [pS_44] at h | rw [pS_45] at h | rw [pS_46] at h | rw [pS_47] at h | rw [pS_48] at h | rw [pS_49] at h | rw [pS_50] at h | rw [pS_51] at h | rw [pS_52] at h | rw [pS_53] at h | rw [pS_54] at h | rw [pS_55] at h | rw [pS_56] at h | rw [pS_57] at h | rw [pS_58] at h | rw [pS_59] at h | rw [pS_60] at h | rw [pS_61] at h | rw [pS_62] at h | rw [pS_63] at h | rw [pS_64] at h | rw [pS_65] at h | rw [pS_66] at h | rw [pS_67] at h)
      (have h0 := kII_i h); clear h; obtain ⟨v, w, r, rfl, h⟩ := h0
      have hr2 := (okL_c.mp (okL_c.mp hst).2).2
      refine lv_icmp_ge hx hb hd (of_decide_eq_true ht) (fun hc => go _ _ ?_ hr2) (fun hc => go _ _ ?_ hr2)
      · rw [if_pos hc] at h; exact h
      · rw [if_neg (hc)] at h; exact h
    · simp only [okI, Bool.and_eq_true, Bool.or_eq_true, Nat.beq_eq, Nat.blt_eq, Nat.ble_eq, decide_eq_true_eq, beq_iff_eq] at hok
      simp only [cdN, Nat.reduceAdd] at hok
      obtain ⟨rfl, ht⟩ := hok
      subst hlen
      (first | rw [pS_0] at h | rw [pS_1] at h | rw [pS_2] at h | rw [pS_3] at h | rw [pS_4] at h | rw [pS_5] at h | rw [pS_6] at h | rw [pS_7] at h | rw [pS_8] at h | rw [pS_9] at h | rw [pS_10] at h | rw [pS_11] at h | rw [pS_12] at h | rw [pS_13] at h | rw [pS_14] at h | rw [pS_15] at h | rw [pS_16] at h | rw [pS_17] at h | rw [pS_18] at h | rw [pS_19] at h | rw [pS_20] at h | rw [pS_21] at h | rw [pS_22] at h | rw [pS_23] at h | rw [pS_24] at h | rw [pS_25] at h | rw [pS_26] at h | rw [pS_27] at h | rw [pS_28] at h | rw [pS_29] at h | rw [pS_30] at h | rw [pS_31] at h | rw [pS_32] at h | rw [pS_33] at h | rw [pS_34] at h | rw [pS_35] at h | rw [pS_36] at h | rw [pS_37] at h | rw [pS_38] at h | rw [pS_39] at h | rw [pS_40] at h | rw [pS_41] at h | rw [pS_42] at h | rw [pS_43] at h | rw [pS_44] at h | rw [pS_45] at h | rw [pS_46] at h | rw [pS_47] at h | rw [pS_48] at h | rw [pS_49] at h | rw [pS_50] at h | rw [pS_51] at h | rw [pS_52] at h | rw [pS_53] at h | rw [pS_54] at h | rw [pS_55] at h | rw [pS_56] at h | rw [pS_57] at h | rw [pS_58] at h | rw [pS_59] at h | rw [pS_60] at h | rw [pS_61] at h | rw [pS_62] at h | rw [pS_63] at h | rw [pS_64] at h | rw [pS_65] at h | rw [pS_66] at h | rw [pS_67] at h)
      (have h0 := kII_i h); clear h; obtain ⟨v, w, r, rfl, h⟩ := h0
      have hr2 := (okL_c.mp (okL_c.mp hst).2).2
      refine lv_icmp_gt hx hb hd (of_decide_eq_true ht) (fun hc => go _ _ ?_ hr2) (fun hc => go _ _ ?_ hr2)
      · rw [if_pos hc] at h; exact h
      · rw [if_neg (hc)] at h; exact h
    · simp only [okI, Bool.and_eq_true, Bool.or_eq_true, Nat.beq_eq, Nat.blt_eq, Nat.ble_eq, decide_eq_true_eq, beq_iff_eq] at hok
      simp only [cdN, Nat.reduceAdd] at hok
      obtain ⟨rfl, ht⟩ := hok
      subst hlen
      (first | rw [pS_0] at h | rw [pS_1] at h | rw [pS_2] at h | rw [pS_3] at h | rw [pS_4] at h | rw [pS_5] at h | rw [pS_6] at h | rw [pS_7] at h | rw [pS_8] at h | rw [pS_9] at h | rw [pS_10] at h | rw [pS_11] at h | rw [pS_12] at h | rw [pS_13] at h | rw [pS_14] at h | rw [pS_15] at h | rw [pS_16] at h | rw [pS_17] at h | rw [pS_18] at h | rw [pS_19] at h | rw [pS_20] at h | rw [pS_21] at h | rw [pS_22] at h | rw [pS_23] at h | rw [pS_24] at h | rw [pS_25] at h | rw [pS_26] at h | rw [pS_27] at h | rw [pS_28] at h | rw [pS_29] at h | rw [pS_30] at h | rw [pS_31] at h | rw [pS_32] at h | rw [pS_33] at h | rw [pS_34] at h | rw [pS_35] at h | rw [pS_36] at h | rw [pS_37] at h | rw [pS_38] at h | rw [pS_39] at h | rw [pS_40] at h | rw [pS_41] at h | rw [pS_42] at h | rw [pS_43] at h | rw [pS_44] at h | rw [pS_45] at h | rw [pS_46] at h | rw [pS_47] at h | rw [pS_48] at h | rw [pS_49] at h | rw [pS_50] at h | rw [pS_51] at h | rw [pS_52] at h | rw [pS_53] at h | rw [pS_54] at h | rw [pS_55] at h | rw [pS_56] at h | rw [pS_57] at h | rw [pS_58] at h | rw [pS_59] at h | rw [pS_60] at h | rw [pS_61] at h | rw [pS_62] at h | rw [pS_63] at h | rw [pS_64] at h | rw [pS_65] at h | rw [pS_66] at h | rw [pS_67] at h)
      (have h0 := kII_i h); clear h; obtain ⟨v, w, r, rfl, h⟩ := h0
      have hr2 := (okL_c.mp (okL_c.mp hst).2).2
      refine lv_icmp_le hx hb hd (of_decide_eq_true ht) (fun hc => go _ _ ?_ hr2) (fun hc => go _ _ ?_ hr2)
      · rw [if_pos hc] at h; exact h
      · rw [if_neg (hc)] at h; exact h
  case ifCond cd zz =>
    simp only [ilen, Nat.beq_eq] at hlen
    cases cd
    · simp only [okI, Bool.and_eq_true, Bool.or_eq_true, Nat.beq_eq, Nat.blt_eq, Nat.ble_eq, decide_eq_true_eq, beq_iff_eq] at hok
      simp only [cdN, Nat.reduceAdd] at hok
      obtain ⟨rfl, ht⟩ := hok
      subst hlen
      (first | rw [pS_0] at h | rw [pS_1] at h | rw [pS_2] at h | rw [pS_3] at h | rw [pS_4] at h | rw [pS_5] at h | rw [pS_6] at h | rw [pS_7] at h | rw [pS_8] at h | rw [pS_9] at h | rw [pS_10] at h | rw [pS_11] at h | rw [pS_12] at h | rw [pS_13] at h | rw [pS_14] at h | rw [pS_15] at h | rw [pS_16] at h | rw [pS_17] at h | rw [pS_18] at h | rw [pS_19] at h | rw [pS_20] at h | rw [pS_21] at h | rw [pS_22] at h | rw [pS_23] at h | rw [pS_24] at h | rw [pS_25] at h | rw [pS_26] at h | rw [pS_27] at h | rw [pS_28] at h | rw [pS_29] at h | rw [pS_30] at h | rw [pS_31] at h | rw [pS_32] at h | rw [pS_33] at h | rw [pS_34] at h | rw [pS_35] at h | rw [pS_36] at h | rw [pS_37] at h | rw [pS_38] at h | rw [pS_39] at h | rw [pS_40] at h | rw [pS_41] at h | rw [pS_42] at h | rw [pS_43] at h | rw [pS_44] at h | rw [pS_45] at h | rw [pS_46] at h | rw [pS_47] at h | rw [pS_48] at h | rw [pS_49] at h | rw [pS_50] at h | rw [pS_51] at h | rw [pS_52] at h | rw [pS_53] at h | rw [pS_54] at h | rw [pS_55] at h | rw [pS_56] at h | rw [pS_57] at h | rw [pS_58] at h | rw [pS_59] at h | rw [pS_60] at h | rw [pS_61] at h | rw [pS_62] at h | rw [pS_63] at h | rw [pS_64] at h | rw [pS_65] at h | rw [pS_66] at h | rw [pS_67] at h)
      (have h0 := kI_i h); clear h; obtain ⟨v, r, rfl, h⟩ := h0
      have hr2 := (okL_c.mp hst).2
      refine lv_if_eq hx hb hd (of_decide_eq_true ht) (fun hc => go _ _ ?_ hr2) (fun hc => go _ _ ?_ hr2)
      · rw [if_pos hc] at h; exact h
      · rw [if_neg (hc)] at h; exact h
    · simp only [okI, Bool.and_eq_true, Bool.or_eq_true, Nat.beq_eq, Nat.blt_eq, Nat.ble_eq, decide_eq_true_eq, beq_iff_eq] at hok
      simp only [cdN, Nat.reduceAdd] at hok
      obtain ⟨rfl, ht⟩ := hok
      subst hlen
      (first | rw [pS_0] at h | rw [pS_1] at h | rw [pS_2] at h | rw [pS_3] at h | rw [pS_4] at h | rw [pS_5] at h | rw [pS_6] at h | rw [pS_7] at h | rw [pS_8] at h | rw [pS_9] at h | rw [pS_10] at h | rw [pS_11] at h | rw [pS_12] at h | rw [pS_13] at h | rw [pS_14] at h | rw [pS_15] at h | rw [pS_16] at h | rw [pS_17] at h | rw [pS_18] at h | rw [pS_19] at h | rw [pS_20] at h | rw [pS_21] at h | rw [pS_22] at h | rw [pS_23] at h | rw [pS_24] at h | rw [pS_25] at h | rw [pS_26] at h | rw [pS_27] at h | rw [pS_28] at h | rw [pS_29] at h | rw [pS_30] at h | rw [pS_31] at h | rw [pS_32] at h | rw [pS_33] at h | rw [pS_34] at h | rw [pS_35] at h | rw [pS_36] at h | rw [pS_37] at h | rw [pS_38] at h | rw [pS_39] at h | rw [pS_40] at h | rw [pS_41] at h | rw [pS_42] at h | rw [pS_43] at h | rw [pS_44] at h | rw [pS_45] at h | rw [pS_46] at h | rw [pS_47] at h | rw [pS_48] at h | rw [pS_49] at h | rw [pS_50] at h | rw [pS_51] at h | rw [pS_52] at h | rw [pS_53] at h | rw [pS_54] at h | rw [pS_55] at h | rw [pS_56] at h | rw [pS_57] at h | rw [pS_58] at h | rw [pS_59] at h | rw [pS_60] at h | rw [pS_61] at h | rw [pS_62] at h | rw [pS_63] at h | rw [pS_64] at h | rw [pS_65] at h | rw [pS_66] at h | rw [pS_67] at h)
      (have h0 := kI_i h); clear h; obtain ⟨v, r, rfl, h⟩ := h0
      have hr2 := (okL_c.mp hst).2
      refine lv_if_ne hx hb hd (of_decide_eq_true ht) (fun hc => go _ _ ?_ hr2) (fun hc => go _ _ ?_ hr2)
      · rw [if_pos hc] at h; exact h
      · rw [if_neg (fun hn => hn hc)] at h; exact h
    · simp only [okI, Bool.and_eq_true, Bool.or_eq_true, Nat.beq_eq, Nat.blt_eq, Nat.ble_eq, decide_eq_true_eq, beq_iff_eq] at hok
      simp only [cdN, Nat.reduceAdd] at hok
      obtain ⟨rfl, ht⟩ := hok
      subst hlen
      (first | rw [pS_0] at h | rw [pS_1] at h | rw [pS_2] at h | rw [pS_3] at h | rw [pS_4] at h | rw [pS_5] at h | rw [pS_6] at h | rw [pS_7] at h | rw [pS_8] at h | rw [pS_9] at h | rw [pS_10] at h | rw [pS_11] at h | rw [pS_12] at h | rw [pS_13] at h | rw [pS_14] at h | rw [pS_15] at h | rw [pS_16] at h | rw [pS_17] at h | rw [pS_18] at h | rw [pS_19] at h | rw [pS_20] at h | rw [pS_21] at h | rw [pS_22] at h | rw [pS_23] at h | rw [pS_24] at h | rw [pS_25] at h | rw [pS_26] at h | rw [pS_27] at h | rw [pS_28] at h | rw [pS_29] at h | rw [pS_30] at h | rw [pS_31] at h | rw [pS_32] at h | rw [pS_33] at h | rw [pS_34] at h | rw [pS_35] at h | rw [pS_36] at h | rw [pS_37] at h | rw [pS_38] at h | rw [pS_39] at h | rw [pS_40] at h | rw [pS_41] at h | rw [pS_42] at h | rw [pS_43] at h | rw [pS_44] at h | rw [pS_45] at h | rw [pS_46] at h | rw [pS_47] at h | rw [pS_48] at h | rw [pS_49] at h | rw [pS_50] at h | rw [pS_51] at h | rw [pS_52] at h | rw [pS_53] at h | rw [pS_54] at h | rw [pS_55] at h | rw [pS_56] at h | rw [pS_57] at h | rw [pS_58] at h | rw [pS_59] at h | rw [pS_60] at h | rw [pS_61] at h | rw [pS_62] at h | rw [pS_63] at h | rw [pS_64] at h | rw [pS_65] at h | rw [pS_66] at h | rw [pS_67] at h)
      (have h0 := kI_i h); clear h; obtain ⟨v, r, rfl, h⟩ := h0
      have hr2 := (okL_c.mp hst).2
      refine lv_if_lt hx hb hd (of_decide_eq_true ht) (fun hc => go _ _ ?_ hr2) (fun hc => go _ _ ?_ hr2)
      · rw [if_pos hc] at h; exact h
      · rw [if_neg (hc)] at h; exact h
    · simp only [okI, Bool.and_eq_true, Bool.or_eq_true, Nat.beq_eq, Nat.blt_eq, Nat.ble_eq, decide_eq_true_eq, beq_iff_eq] at hok
      simp only [cdN, Nat.reduceAdd] at hok
      obtain ⟨rfl, ht⟩ := hok
      subst hlen
      (first | rw [pS_0] at h | rw [pS_1] at h | rw [pS_2] at h | rw [pS_3] at h | rw [pS_4] at h | rw [pS_5] at h | rw [pS_6] at h | rw [pS_7] at h | rw [pS_8] at h | rw [pS_9] at h | rw [pS_10] at h | rw [pS_11] at h | rw [pS_12] at h | rw [pS_13] at h | rw [pS_14] at h | rw [pS_15] at h | rw [pS_16] at h | rw [pS_17] at h | rw [pS_18] at h | rw [pS_19] at h | rw [pS_20] at h | rw [pS_21] at h | rw [pS_22] at h | rw [pS_23] at h | rw [pS_24] at h | rw [pS_25] at h | rw [pS_26] at h | rw [pS_27] at h | rw [pS_28] at h | rw [pS_29] at h | rw [pS_30] at h | rw [pS_31] at h | rw [pS_32] at h | rw [pS_33] at h | rw [pS_34] at h | rw [pS_35] at h | rw [pS_36] at h | rw [pS_37] at h | rw [pS_38] at h | rw [pS_39] at h | rw [pS_40] at h | rw [pS_41] at h | rw [pS_42] at h | rw [pS_43] at h | rw [pS_44] at h | rw [pS_45] at h | rw [pS_46] at h | rw [pS_47] at h | rw [pS_48] at h | rw [pS_49] at h | rw [pS_50] at h | rw [pS_51] at h | rw [pS_52] at h | rw [pS_53] at h | rw [pS_54] at h | rw [pS_55] at h | rw [pS_56] at h | rw [pS_57] at h | rw [pS_58] at h | rw [pS_59] at h | rw [pS_60] at h | rw [pS_61] at h | rw [pS_62] at h | rw [pS_63] at h | rw [pS_64] at h | rw [pS_65] at h | rw [pS_66] at h | rw [pS_67] at h)
      (have h0 := kI_i h); clear h; obtain ⟨v, r, rfl, h⟩ := h0
      have hr2 := (okL_c.mp hst).2
      refine lv_if_ge hx hb hd (of_decide_eq_true ht) (fun hc => go _ _ ?_ hr2) (fun hc => go _ _ ?_ hr2)
      · rw [if_pos hc] at h; exact h
      · rw [if_neg (hc)] at h; exact h
    · simp only [okI, Bool.and_eq_true, Bool.or_eq_true, Nat.beq_eq, Nat.blt_eq, Nat.ble_eq, decide_eq_true_eq, beq_iff_eq] at hok
      simp only [cdN, Nat.reduceAdd] at hok
      obtain ⟨rfl, ht⟩ := hok
      subst hlen
      (first | rw [pS_0] at h | rw [pS_1] at h | rw [pS_2] at h | rw [pS_3] at h | rw [pS_4] at h | rw [pS_5] at h | rw [pS_6] at h | rw [pS_7] at h | rw [pS_8] at h | rw [pS_9] at h | rw [pS_10] at h | rw [pS_11] at h | rw [pS_12] at h | rw [pS_13] at h | rw [pS_14] at h | rw [pS_15] at h | rw [pS_16] at h | rw [pS_17] at h | rw [pS_18] at h | rw [pS_19] at h | rw [pS_20] at h | rw [pS_21] at h | rw [pS_22] at h | rw [pS_23] at h | rw [pS_24] at h | rw [pS_25] at h | rw [pS_26] at h | rw [pS_27] at h | rw [pS_28] at h | rw [pS_29] at h | rw [pS_30] at h | rw [pS_31] at h | rw [pS_32] at h | rw [pS_33] at h | rw [pS_34] at h | rw [pS_35] at h | rw [pS_36] at h | rw [pS_37] at h | rw [pS_38] at h | rw [pS_39] at h | rw [pS_40] at h | rw [pS_41] at h | rw [pS_42] at h | rw [pS_43] at h | rw [pS_44] at h | rw [pS_45] at h | rw [pS_46] at h | rw [pS_47] at h | rw [pS_48] at h | rw [pS_49] at h | rw [pS_50] at h | rw [pS_51] at h | rw [pS_52] at h | rw [pS_53] at h | rw [pS_54] at h | rw [pS_55] at h | rw [pS_56] at h | rw [pS_57] at h | rw [pS_58] at h | rw [pS_59] at h | rw [pS_60] at h | rw [pS_61] at h | rw [pS_62] at h | rw [pS_63] at h | rw [pS_64] at h | rw [pS_65] at h | rw [pS_66] at h | rw [pS_67] at h)
      (have h0 := kI_i h); clear h; obtain ⟨v, r, rfl, h⟩ := h0
      have hr2 := (okL_c.mp hst).2
      refine lv_if_gt hx hb hd (of_decide_eq_true ht) (fun hc => go _ _ ?_ hr2) (fun hc => go _ _ ?_ hr2)
      · rw [if_pos hc] at h; exact h
      · rw [if_neg (hc)] at h; exact h
    · simp only [okI, Bool.and_eq_true, Bool.or_eq_true, Nat.beq_eq, Nat.blt_eq, Nat.ble_eq, decide_eq_true_eq, beq_iff_eq] at hok
      simp only [cdN, Nat.reduceAdd] at hok
      obtain ⟨rfl, ht⟩ := hok
      subst hlen
      (first | rw [pS_0] at h | rw [pS_1] at h | rw [pS_2] at h | rw [pS_3] at h | rw [pS_4] at h | rw [pS_5] at h | rw [pS_6] at h | rw [pS_7] at h | rw [pS_8] at h | rw [pS_9] at h | rw [pS_10] at h | rw [pS_11] at h | rw [pS_12] at h | rw [pS_13] at h | rw [pS_14] at h | rw [pS_15] at h | rw [pS_16] at h | rw [pS_17] at h | rw [pS_18] at h | rw [pS_19] at h | rw [pS_20] at h | rw [pS_21] at h | rw [pS_22] at h | rw [pS_23] at h | rw [pS_24] at h | rw [pS_25] at h | rw [pS_26] at h | rw [pS_27] at h | rw [pS_28] at h | rw [pS_29] at h | rw [pS_30] at h | rw [pS_31] at h | rw [pS_32] at h | rw [pS_33] at h | rw [pS_34] at h | rw [pS_35] at h | rw [pS_36] at h | rw [pS_37] at h | rw [pS_38] at h | rw [pS_39] at h | rw [pS_40] at h | rw [pS_41] at h | rw [pS_42] at h | rw [pS_43] at h | rw [pS_44] at h | rw [pS_45] at h | rw [pS_46] at h | rw [pS_47] at h | rw [pS_48] at h | rw [pS_49] at h | rw [pS_50] at h | rw [pS_51] at h | rw [pS_52] at h | rw [pS_53] at h | rw [pS_54] at h | rw [pS_55] at h | rw [pS_56] at h | rw [pS_57] at h | rw [pS_58] at h | rw [pS_59] at h | rw [pS_60] at h | rw [pS_61] at h | rw [pS_62] at h | rw [pS_63] at h | rw [pS_64] at h | rw [pS_65] at h | rw [pS_66] at h | rw [pS_67] at h)
      (have h0 := kI_i h); clear h; obtain ⟨v, r, rfl, h⟩ := h0
      have hr2 := (okL_c.mp hst).2
      refine lv_if_le hx hb hd (of_decide_eq_true ht) (fun hc => go _ _ ?_ hr2) (fun hc => go _ _ ?_ hr2)
      · rw [if_pos hc] at h; exact h
      · rw [if_neg (hc)] at h; exact h
  case ifnull zz =>
    simp only [ilen, Nat.beq_eq] at hlen
    simp only [okI, Bool.and_eq_true, Bool.or_eq_true, Nat.beq_eq, Nat.blt_eq, Nat.ble_eq, decide_eq_true_eq, beq_iff_eq] at hok
    obtain ⟨rfl, ht⟩ := hok
    subst hlen
    (first | rw [pS_0] at h | rw [pS_1] at h | rw [pS_2] at h | rw [pS_3] at h | rw [pS_4] at h | rw [pS_5] at h | rw [pS_6] at h | rw [pS_7] at h | rw [pS_8] at h | rw [pS_9] at h | rw [pS_10] at h | rw [pS_11] at h | rw [pS_12] at h | rw [pS_13] at h | rw [pS_14] at h | rw [pS_15] at h | rw [pS_16] at h | rw [pS_17] at h | rw [pS_18] at h | rw [pS_19] at h | rw [pS_20] at h | rw [pS_21] at h | rw [pS_22] at h | rw [pS_23] at h | rw [pS_24] at h | rw [pS_25] at h | rw [pS_26] at h | rw [pS_27] at h | rw [pS_28] at h | rw [pS_29] at h | rw [pS_30] at h | rw [pS_31] at h | rw [pS_32] at h | rw [pS_33] at h | rw [pS_34] at h | rw [pS_35] at h | rw [pS_36] at h | rw [pS_37] at h | rw [pS_38] at h | rw [pS_39] at h | rw [pS_40] at h | rw [pS_41] at h | rw [pS_42] at h | rw [pS_43] at h | rw [pS_44] at h | rw [pS_45] at h | rw [pS_46] at h | rw [pS_47] at h | rw [pS_48] at h | rw [pS_49] at h | rw [pS_50] at h | rw [pS_51] at h | rw [pS_52] at h | rw [pS_53] at h | rw [pS_54] at h | rw [pS_55] at h | rw [pS_56] at h | rw [pS_57] at h | rw [pS_58] at h | rw [pS_59] at h | rw [pS_60] at h | rw [pS_61] at h | rw [pS_62] at h | rw [pS_63] at h | rw [pS_64] at h | rw [pS_65] at h | rw [pS_66] at h | rw [pS_67] at h)
    (have h0 := kAn_i h); clear h; obtain ⟨v, r, rfl, h⟩ := h0
    have hr2 := (okL_c.mp hst).2
    cases v with
    | none => exact lv_ifnullN hx hb hd (of_decide_eq_true ht) (go _ _ h hr2)
    | some q => exact lv_ifnull hx hb hd (go _ _ h hr2)
  case ifnonnull zz =>
    simp only [ilen, Nat.beq_eq] at hlen
    simp only [okI, Bool.and_eq_true, Bool.or_eq_true, Nat.beq_eq, Nat.blt_eq, Nat.ble_eq, decide_eq_true_eq, beq_iff_eq] at hok
    obtain ⟨rfl, ht⟩ := hok
    subst hlen
    (first | rw [pS_0] at h | rw [pS_1] at h | rw [pS_2] at h | rw [pS_3] at h | rw [pS_4] at h | rw [pS_5] at h | rw [pS_6] at h | rw [pS_7] at h | rw [pS_8] at h | rw [pS_9] at h | rw [pS_10] at h | rw [pS_11] at h | rw [pS_12] at h | rw [pS_13] at h | rw [pS_14] at h | rw [pS_15] at h | rw [pS_16] at h | rw [pS_17] at h | rw [pS_18] at h | rw [pS_19] at h | rw [pS_20] at h | rw [pS_21] at h | rw [pS_22] at h | rw [pS_23] at h | rw [pS_24] at h | rw [pS_25] at h | rw [pS_26] at h | rw [pS_27] at h | rw [pS_28] at h | rw [pS_29] at h | rw [pS_30] at h | rw [pS_31] at h | rw [pS_32] at h | rw [pS_33] at h | rw [pS_34] at h | rw [pS_35] at h | rw [pS_36] at h | rw [pS_37] at h | rw [pS_38] at h | rw [pS_39] at h | rw [pS_40] at h | rw [pS_41] at h | rw [pS_42] at h | rw [pS_43] at h | rw [pS_44] at h | rw [pS_45] at h | rw [pS_46] at h | rw [pS_47] at h | rw [pS_48] at h | rw [pS_49] at h | rw [pS_50] at h | rw [pS_51] at h | rw [pS_52] at h | rw [pS_53] at h | rw [pS_54] at h | rw [pS_55] at h | rw [pS_56] at h | rw [pS_57] at h | rw [pS_58] at h | rw [pS_59] at h | rw [pS_60] at h | rw [pS_61] at h | rw [pS_62] at h | rw [pS_63] at h | rw [pS_64] at h | rw [pS_65] at h | rw [pS_66] at h | rw [pS_67] at h)
    (have h0 := kAn_i h); clear h; obtain ⟨v, r, rfl, h⟩ := h0
    have hr2 := (okL_c.mp hst).2
    cases v with
    | none => exact lv_ifnonnullN hx hb hd (go _ _ h hr2)
    | some q => exact lv_ifnonnull hx hb hd (of_decide_eq_true ht) (go _ _ h hr2)
  case tableswitch dd lo hi offs =>
    simp only [okI, Bool.and_eq_true, Nat.beq_eq, decide_eq_true_eq] at hok
    obtain ⟨⟨⟨⟨⟨⟨rfl, hw⟩, hhi⟩, h0⟩, hall⟩, hlo⟩, hhi2⟩ := hok
    rw [pS_37] at h
    (have h0 := kI_i h); clear h; obtain ⟨v, r, rfl, h⟩ := h0
    rw [hw] at h
    dsimp only at h
    have hr2 := (okL_c.mp hst).2
    have hsz : offs.toList.length = offs.size := Array.length_toList
    rcases kSw_t offs.toList lo (by omega) (by omega) h with ⟨j, y, g1, g2, g3⟩ | ⟨g1, g2⟩
    · have hjl : j < offs.toList.length := (List.getElem?_eq_some_iff.mp g1).1
      have hy : 0 ≤ (pc : Int) + y := of_decide_eq_true (List.all_eq_true.mp hall y (List.mem_of_getElem? g1))
      refine lv_tableIn (off := y) (tgt := ((pc : Int) + y).toNat) hx hb hd (by omega) (by omega) ?_ (by omega) (go _ _ g3 hr2)
      have e1 : (v.toInt - lo).toNat = j := by omega
      rw [e1, ← Array.getElem?_toList]
      exact g1
    · exact lv_tableOut (tgt := ((pc : Int) + dd).toNat) hx hb hd (by omega) (by omega) (go _ _ g2 hr2)
  case lookupswitch dd ps =>
    simp only [okI, Bool.and_eq_true, Nat.beq_eq, decide_eq_true_eq] at hok
    obtain ⟨⟨⟨⟨rfl, hw⟩, h0⟩, hall⟩, hsrt⟩ := hok
    rw [pS_37] at h
    (have h0 := kI_i h); clear h; obtain ⟨v, r, rfl, h⟩ := h0
    rw [hw] at h
    dsimp only at h
    have hr2 := (okL_c.mp hst).2
    have hall2 : ∀ q ∈ ps.toList, 0 ≤ (pc : Int) + q.2 ∧ -1000000 < q.1 ∧ q.1 < 1000000 := by
      intro q hq
      have := List.all_eq_true.mp hall q hq
      simp only [Bool.and_eq_true, decide_eq_true_eq] at this
      exact ⟨this.1.1, this.1.2, this.2⟩
    have g := kSw_l ps.toList (fun q hq => (hall2 q hq).2) h
    refine lv_lookup (off := Op.lookupswitch.offset ps.toList dd v.toInt) (tgt := ((pc : Int) + Op.lookupswitch.offset ps.toList dd v.toInt).toNat) hx hb hd hsrt rfl ?_ (go _ _ g hr2)
    rcases off_in (dd := dd) (k := v.toInt) ps.toList with e1 | ⟨q, hq, e1⟩
    · rw [e1]; omega
    · rw [e1]; have := (hall2 q hq).1; omega
  case getfield k => exfalso; simp only [okI, Bool.and_eq_true, Bool.or_eq_true, Nat.beq_eq] at hok; obtain ⟨-, h9⟩ := hok; omega
  case putfield k => exfalso; simp only [okI, Bool.and_eq_true, Bool.or_eq_true, Nat.beq_eq] at hok; obtain ⟨⟨-, h9⟩, -⟩ := hok; rcases h9 with ⟨h9, -⟩ | ⟨h9, -⟩ <;> omega
  case new k => exfalso; simp only [okI, Bool.and_eq_true, Bool.or_eq_true, Nat.beq_eq] at hok; rcases hok with ⟨⟨⟨h9, -⟩, -⟩, -⟩ | ⟨⟨⟨⟨⟨⟨⟨h9, -⟩, -⟩, -⟩, -⟩, -⟩, -⟩, -⟩ <;> omega
  case invokevirtual k => exfalso; simp only [okI, Bool.and_eq_true, Bool.or_eq_true, Nat.beq_eq] at hok; rcases hok with (⟨h9, -⟩ | ⟨h9, -⟩) | ⟨h9, -⟩ <;> omega
  case invokestatic k => exfalso; simp only [okI, Bool.and_eq_true, Bool.or_eq_true, Nat.beq_eq] at hok; rcases hok with (((⟨h9, -⟩ | ⟨h9, -⟩) | ⟨h9, -⟩) | ⟨h9, -⟩) | ⟨h9, -⟩ <;> omega
  case invokespecial k => exfalso; simp only [okI, Bool.and_eq_true, Bool.or_eq_true, Nat.beq_eq] at hok; rcases hok with (⟨h9, -⟩ | ⟨h9, -⟩) | h9 <;> omega
  case newarray at_ => exfalso; cases at_ <;> simp [okI] at hok <;> omega
  all_goals first | (simp [okI] at hok; done) | (exfalso; simp [okI] at hok; omega)
end
section
theorem arrI_in : Cond.arrayClass (newarray.typeOf .int) ∈ wT := wT_in 163 (by decide +kernel) rfl
theorem arrJ_in : Cond.arrayClass (newarray.typeOf .long) ∈ wT := wT_in 1993 (by decide +kernel) rfl
theorem zW_in (a : Nat) (ha : a < 12) : zW a ∈ wT := by
  have hz : ∀ c, c < 12 → ∃ q ∈ INz, q.2 = c := by decide +kernel
  obtain ⟨q, hq, rfl⟩ := hz a ha
  exact INz_ok q hq
theorem AsE_set {E : pEnv} {as : Nat → Nat} {S : pS} {q : Nat} {c : pC} (h : AsE E as S) (hc : ¬ ∃ k f, c = cT k f) : AsE E as (pSet S q c) := by
  refine ⟨h.1, h.2.1, fun i k f hi => ?_⟩
  by_cases e : i = q
  · subst e
    simp only [pSet, if_true, Option.some.injEq] at hi
    exact absurd ⟨k, f, hi⟩ hc
  · simp only [pSet, e, if_false] at hi
    exact h.2.2 i k f hi
theorem AsE_new {E : pEnv} {as : Nat → Nat} {S : pS} {q sl : Nat} {c : pC} (h : AsE E as S) (hc : ¬ ∃ k f, c = cT k f) (hn : S.1 < pSB) : AsE E (asN as S.1 q) (pNew S c sl) := by
  have old := asN_old (as := as) (q := q) hn
  refine ⟨fun i hi => by rw [old _ (Or.inr (Nat.le_add_right _ _))]; exact h.1 i hi, by rw [old _ (Or.inr (Nat.le_add_right _ _))]; exact h.2.1, fun i k f hi => ?_⟩
  by_cases e : i = S.1
  · subst e
    simp only [pNew, if_true, Option.some.injEq] at hi
    exact absurd ⟨k, f, hi⟩ hc
  · simp only [pNew, e, if_false] at hi
    exact h.2.2 i k f hi
theorem rv_rf (as : Nat → Nat) (v : Option Nat) : rv as (va_rf v) = va_rf (v.map as) := by cases v <;> rfl
set_option maxHeartbeats 4000000 in
set_option maxRecDepth 10000 in
theorem stepB {l : Launch} {D : va_G} {E : pEnv} {M : Nat} {p : Program} {e : Env} {R : Room} {s : State} {m : MethodId} {args : Array Value} {below : List Frame} {meth : Method} {c : Code} {A : Nat → Prop} {n0 sl0 : Nat} {Q : State → Prop} {C : Nat → List Value → pS → pR} {K : Nat → List Value → List Value → pS → pR} {z : pO × pS} {as : Nat → Nat} {S : pS} {pc len op : Nat} {x : Int} {a b : Nat} {i : Instr} {ls st : List Value} {H : Heap} {locs : List Loc} {mls : Array Slot}
    (cx : Cx M p s m args meth c) (hE : EF E A s s.heap) (hA : ∀ q, s.heap.size ≤ q → A q) (hW : Wd D E A as S s H) (hS : va_S A s.heap H locs) (hL : LV (mJ M) as mls (mxL M) ls) (hls : okL S.1 ls) (hst : okL S.1 st) (hn0 : n0 ≤ S.1) (hsl0 : sl0 ≤ S.2.1)
    (hge : ∀ pc ls st (S1 : pS), ge_ S1.1 S1.2.1 (K pc ls st S1)) (hz : z.2.1 ≤ 601024) (hRc : z.2.1 - n0 ≤ R.cells) (hRs : z.2.2.1 - sl0 ≤ R.slots)
    (hd : decode (mB M) pc = .ok (i, len)) (hlen : ilen i len = true) (hok : okI M pc op x a b i = true) (hop : 38 ≤ op ∧ op < 54) (h : pStep C K M pc (len, op, x, a, b) ls st S = some z) (ct : Ct l D E M p e R s m args below meth c A n0 sl0 Q K z as S) :
    W p l e R s m args below meth c H locs (S.1 - n0) (S.2.1 - sl0) Q (F0 m pc mls (st.map (rv as))) := by
  obtain ⟨hx, hb, hr, hlk, hml, hown, hts, hin, htb⟩ := cx
  have go : ∀ (pc' : Nat) (st' : List Value), K pc' ls st' S = some z → okL S.1 st' → W p l e R s m args below meth c H locs (S.1 - n0) (S.2.1 - sl0) Q (F0 m pc' mls (st'.map (rv as))) := fun pc' st' hk ho => ct pc' ls mls st' S as H locs hk (fun _ _ => rfl) hW hS hL hls ho (Nat.le_refl _) (Nat.le_refl _)
  obtain ⟨tys, ws, hK, hP, hD, hHR, hAs⟩ := hW
  have goS : ∀ (pc' : Nat) (st' : List Value) (q k : Nat) (c0 c1 : pC) (e0 e1 : va_E) (H1 : Heap) (locs1 : List Loc), S.2.2 q = some c0 → (¬ ∃ k f, c0 = cT k f) → (¬ ∃ k f, c1 = cT k f) → ws[k]? = some (as q, e0) → rlE as S.1 tys c1 e1 → va_P D vwCl (ws.set k (as q, e1)) H1 → va_D A (ws.set k (as q, e1)) → va_S A s.heap H1 locs1 → K pc' ls st' (pSet S q c1) = some z → okL S.1 st' → W p l e R s m args below meth c H1 locs1 (S.1 - n0) (S.2.1 - sl0) Q (F0 m pc' mls (st'.map (rv as))) := by
    intro pc' st' q k c0 c1 e0 e1 H1 locs1 hq hc0 hc1 hk hrl hP1 hD1 hS1 hk1 ho
    exact ct pc' ls mls st' (pSet S q c1) as H1 locs1 hk1 (fun _ _ => rfl) ⟨tys, _, hK, hP1, hD1, HR_set (A := A) hHR hq hc0 hk hrl, AsE_set hAs hc1⟩ hS1 hL hls ho (Nat.le_refl _) (Nat.le_refl _)
  have goN : ∀ (pc' : Nat) (st' : List Value) (q sl : Nat) (c1 : pC) (e1 : va_E) (tys1 : List (ClassId × FieldType)) (H1 : Heap), S.1 < pSB → (¬ ∃ k f, c1 = cT k f) → (∀ y ∈ tys, y ∈ tys1) → va_K D vwCl tys1 s → rlE (asN as S.1 q) (S.1 + 1) tys1 c1 e1 → va_P D vwCl (ws ++ [(q, e1)]) H1 → va_D A (ws ++ [(q, e1)]) → va_S A s.heap H1 locs → K pc' ls (.ref S.1 :: st') (pNew S c1 sl) = some z → okL S.1 st' → W p l e R s m args below meth c H1 locs (S.1 + 1 - n0) (S.2.1 + sl - sl0) Q (F0 m pc' mls (.ref q :: st'.map (rv as))) := by
    intro pc' st' q sl c1 e1 tys1 H1 hn hc1 ht hK1 hrl hP1 hD1 hS1 hk1 ho
    have old := asN_old (as := as) (q := q) hn
    have h2 := ct pc' ls mls (.ref S.1 :: st') (pNew S c1 sl) (asN as S.1 q) H1 locs hk1 old ⟨tys1, _, hK1, hP1, hD1, HR_new hHR hn hD1 ht hrl, AsE_new hAs hc1 hn⟩ hS1 (hL.ext old hls) (okL_up (Nat.le_succ _) hls) (okL_c.mpr ⟨Or.inl (Nat.lt_succ_self _), okL_up (Nat.le_succ _) ho⟩) (Nat.le_succ _) (Nat.le_add_right _ _)
    rw [List.map_cons, okL_map ho old] at h2
    have e2 : rv (asN as S.1 q) (.ref S.1) = .ref q := congrArg Value.ref (asN_new as S.1 q)
    rw [e2] at h2
    exact h2
  have room : ∀ (pc' : Nat) (st' : List Value) (c1 : pC) (sl : Nat), K pc' ls st' (pNew S c1 sl) = some z → S.1 < pSB ∧ S.1 - n0 + 1 ≤ R.cells ∧ S.2.1 - sl0 + sl ≤ R.slots ∧ S.1 - n0 + 1 = S.1 + 1 - n0 ∧ S.2.1 - sl0 + sl = S.2.1 + sl - sl0 := by
    intro pc' st' c1 sl hk1
    have h1 := hge pc' ls st' (pNew S c1 sl) z.1 z.2 hk1
    have h2 : S.1 + 1 ≤ z.2.1 := h1.1
    have h3 : S.2.1 + sl ≤ z.2.2.1 := h1.2
    have h4 : pSB = 10000000 := rfl
    refine ⟨?_, ?_, ?_, ?_, ?_⟩ <;> omega
  cases i
  case getfield k =>
    simp only [ilen, Nat.beq_eq] at hlen
    simp only [okI, Bool.and_eq_true, Bool.or_eq_true, Nat.beq_eq, Nat.blt_eq, Nat.ble_eq, decide_eq_true_eq, beq_iff_eq] at hok
    subst hlen
    obtain ⟨⟨⟨hbN, ha⟩, hlnk⟩, hop2⟩ := hok
    obtain ⟨C0, T, N, ty, hcl, hws, hty, hnm, hdf, hdfl⟩ := clF a ha
    rw [fN_of hcl] at hbN
    have row : ∀ (q : Nat) (fs : List Value) (v : Value) (r : List Value), gO S q a = some fs → fs[b]? = some v → W p l e R s m args below meth c H locs (S.1 - n0) (S.2.1 - sl0) Q (F0 m (pc + 3) mls (rv as v :: r.map (rv as))) → W p l e R s m args below meth c H locs (S.1 - n0) (S.2.1 - sl0) Q (F0 m pc mls (.ref (as q) :: r.map (rv as))) := by
      intro q fs v r hg hv kk
      obtain ⟨-, ⟨k1, hk1⟩, -, -⟩ := HR_obj hHR hg
      have hv2 : (fs.map (rv as))[b]? = some (rv as v) := by rw [List.getElem?_map, hv]; rfl
      rcases hlnk with hlnk | ⟨⟨⟨h1, h2⟩, h3⟩, h4⟩
      · have hl2 := hts _ (FLt_ok hlnk)
        rw [fW_of hcl] at hl2
        exact va_get (D := D) hx hb hts hws hown hK hP k1 hk1 hcl b hbN hl2 (fun _ h9 => h9) hv2 hd kk
      · subst h2; subst h3; subst h4
        have hcl2 := hcl
        cases hcl2
        rw [h1] at hown
        exact va_getN (D := D) (host := "StillYear") hx hb hts hws hown hK hP k1 hk1 hcl 0 hbN (va_Nw.use rfl hE.2.2.2.2.2.1.2.1) (fun _ h9 => h9) hv2 hd kk
    rcases hop2 with (rfl | rfl) | rfl
    · (first | rw [pS_0] at h | rw [pS_1] at h | rw [pS_2] at h | rw [pS_3] at h | rw [pS_4] at h | rw [pS_5] at h | rw [pS_6] at h | rw [pS_7] at h | rw [pS_8] at h | rw [pS_9] at h | rw [pS_10] at h | rw [pS_11] at h | rw [pS_12] at h | rw [pS_13] at h | rw [pS_14] at h | rw [pS_15] at h | rw [pS_16] at h | rw [pS_17] at h | rw [pS_18] at h | rw [pS_19] at h | rw [pS_20] at h | rw [pS_21] at h | rw [pS_22] at h | rw [pS_23] at h | rw [pS_24] at h | rw [pS_25] at h | rw [pS_26] at h | rw [pS_27] at h | rw [pS_28] at h | rw [pS_29] at h | rw [pS_30] at h | rw [pS_31] at h | rw [pS_32] at h | rw [pS_33] at h | rw [pS_34] at h | rw [pS_35] at h | rw [pS_36] at h | rw [pS_37] at h | rw [pS_38] at h | rw [pS_39] at h | rw [pS_40] at h | rw [pS_41] at h | rw [pS_42] at h | rw [pS_43] at h | rw [pS_44] at h | rw [pS_45] at h | rw [pS_46] at h | rw [pS_47] at h | rw [pS_48] at h | rw [pS_49] at h | rw [pS_50] at h | rw [pS_51] at h | rw [pS_52] at h | rw [pS_53] at h | rw [pS_54] at h | rw [pS_55] at h | rw [pS_56] at h | rw [pS_57] at h | rw [pS_58] at h | rw [pS_59] at h | rw [pS_60] at h | rw [pS_61] at h | rw [pS_62] at h | rw [pS_63] at h | rw [pS_64] at h | rw [pS_65] at h | rw [pS_66] at h | rw [pS_67] at h)
      (have h0 := kA_i h); clear h; obtain ⟨q, r, rfl, h⟩ := h0
      obtain ⟨v, hv, h⟩ := bd_i h
      obtain ⟨fs, hg, hf⟩ := gFi_i hv
      exact row q fs _ r hg hf (go _ (.int v :: r) h (okL_c.mpr ⟨trivial, (okL_c.mp hst).2⟩))
    · (first | rw [pS_0] at h | rw [pS_1] at h | rw [pS_2] at h | rw [pS_3] at h | rw [pS_4] at h | rw [pS_5] at h | rw [pS_6] at h | rw [pS_7] at h | rw [pS_8] at h | rw [pS_9] at h | rw [pS_10] at h | rw [pS_11] at h | rw [pS_12] at h | rw [pS_13] at h | rw [pS_14] at h | rw [pS_15] at h | rw [pS_16] at h | rw [pS_17] at h | rw [pS_18] at h | rw [pS_19] at h | rw [pS_20] at h | rw [pS_21] at h | rw [pS_22] at h | rw [pS_23] at h | rw [pS_24] at h | rw [pS_25] at h | rw [pS_26] at h | rw [pS_27] at h | rw [pS_28] at h | rw [pS_29] at h | rw [pS_30] at h | rw [pS_31] at h | rw [pS_32] at h | rw [pS_33] at h | rw [pS_34] at h | rw [pS_35] at h | rw [pS_36] at h | rw [pS_37] at h | rw [pS_38] at h | rw [pS_39] at h | rw [pS_40] at h | rw [pS_41] at h | rw [pS_42] at h | rw [pS_43] at h | rw [pS_44] at h | rw [pS_45] at h | rw [pS_46] at h | rw [pS_47] at h | rw [pS_48] at h | rw [pS_49] at h | rw [pS_50] at h | rw [pS_51] at h | rw [pS_52] at h | rw [pS_53] at h | rw [pS_54] at h | rw [pS_55] at h | rw [pS_56] at h | rw [pS_57] at h | rw [pS_58] at h | rw [pS_59] at h | rw [pS_60] at h | rw [pS_61] at h | rw [pS_62] at h | rw [pS_63] at h | rw [pS_64] at h | rw [pS_65] at h | rw [pS_66] at h | rw [pS_67] at h)
      (have h0 := kA_i h); clear h; obtain ⟨q, r, rfl, h⟩ := h0
      obtain ⟨v, hv, h⟩ := bd_i h
      obtain ⟨fs, hg, hf⟩ := gFr_i hv
      have ho := okL_get (HR_obj hHR hg).2.2.1 hf
      exact row q fs _ r hg hf (go _ (.ref v :: r) h (okL_c.mpr ⟨ho, (okL_c.mp hst).2⟩))
    · (first | rw [pS_0] at h | rw [pS_1] at h | rw [pS_2] at h | rw [pS_3] at h | rw [pS_4] at h | rw [pS_5] at h | rw [pS_6] at h | rw [pS_7] at h | rw [pS_8] at h | rw [pS_9] at h | rw [pS_10] at h | rw [pS_11] at h | rw [pS_12] at h | rw [pS_13] at h | rw [pS_14] at h | rw [pS_15] at h | rw [pS_16] at h | rw [pS_17] at h | rw [pS_18] at h | rw [pS_19] at h | rw [pS_20] at h | rw [pS_21] at h | rw [pS_22] at h | rw [pS_23] at h | rw [pS_24] at h | rw [pS_25] at h | rw [pS_26] at h | rw [pS_27] at h | rw [pS_28] at h | rw [pS_29] at h | rw [pS_30] at h | rw [pS_31] at h | rw [pS_32] at h | rw [pS_33] at h | rw [pS_34] at h | rw [pS_35] at h | rw [pS_36] at h | rw [pS_37] at h | rw [pS_38] at h | rw [pS_39] at h | rw [pS_40] at h | rw [pS_41] at h | rw [pS_42] at h | rw [pS_43] at h | rw [pS_44] at h | rw [pS_45] at h | rw [pS_46] at h | rw [pS_47] at h | rw [pS_48] at h | rw [pS_49] at h | rw [pS_50] at h | rw [pS_51] at h | rw [pS_52] at h | rw [pS_53] at h | rw [pS_54] at h | rw [pS_55] at h | rw [pS_56] at h | rw [pS_57] at h | rw [pS_58] at h | rw [pS_59] at h | rw [pS_60] at h | rw [pS_61] at h | rw [pS_62] at h | rw [pS_63] at h | rw [pS_64] at h | rw [pS_65] at h | rw [pS_66] at h | rw [pS_67] at h)
      (have h0 := kA_i h); clear h; obtain ⟨q, r, rfl, h⟩ := h0
      obtain ⟨v, hv, h⟩ := bd_i h
      obtain ⟨fs, hg, hf⟩ := gFv_i hv
      have ho := okL_get (HR_obj hHR hg).2.2.1 hf
      refine row q fs _ r hg hf ?_
      rcases oN_i h with ⟨rfl, h⟩ | ⟨w, rfl, h⟩
      · exact go _ (.null :: r) h (okL_c.mpr ⟨trivial, (okL_c.mp hst).2⟩)
      · exact go _ (.ref w :: r) h (okL_c.mpr ⟨ho, (okL_c.mp hst).2⟩)
  case putfield k =>
    simp only [ilen, Nat.beq_eq] at hlen
    simp only [okI, Bool.and_eq_true, Bool.or_eq_true, Nat.beq_eq, Nat.blt_eq, Nat.ble_eq, decide_eq_true_eq, beq_iff_eq] at hok
    subst hlen
    obtain ⟨⟨⟨⟨hbN, ha⟩, hlnk⟩, htp⟩, hfin⟩ := hok
    obtain ⟨C0, T, N, ty, hcl, hws, hty, hnm, hdf, hdfl⟩ := clF a ha
    rw [fN_of hcl] at hbN
    rw [fTy_of hcl] at htp
    rw [fFin_of hcl, fDc_of hcl] at hfin
    have hl2 := hts _ (FLt_ok hlnk)
    rw [fW_of hcl] at hl2
    have row : ∀ (q : Nat) (v : Value) (r : List Value) (S1 : pS) (t : FieldType), parseFieldDescriptor (T b).2.2.1 = some t → narrow t (rv as v) = rv as v → fits t (rv as v) = true → okV S.1 v → okL S.1 r → pF S q a b v = some S1 → K (pc + 3) ls r S1 = some z → W p l e R s m args below meth c H locs (S.1 - n0) (S.2.1 - sl0) Q (F0 m pc mls (rv as v :: .ref (as q) :: r.map (rv as))) := by
      intro q v r S1 t ht hnr hft hov hor hpf hk
      obtain ⟨fs, hg, hbl, rfl⟩ := pF_i hpf
      obtain ⟨hcell, ⟨k1, hk1⟩, hof, -⟩ := HR_obj hHR hg
      have hset : (fs.map (rv as)).set b (rv as v) = (fs.set b v).map (rv as) := by rw [List.map_set]
      have kk : ∀ (H1 : Heap) (locs1 : List Loc), va_P D vwCl (ws.set k1 (as q, .inr (a, (fs.map (rv as)).set b (rv as v)))) H1 → va_D A (ws.set k1 (as q, .inr (a, (fs.map (rv as)).set b (rv as v)))) → va_S A s.heap H1 locs1 → W p l e R s m args below meth c H1 locs1 (S.1 - n0) (S.2.1 - sl0) Q (F0 m (pc + 3) mls (r.map (rv as))) := by
        intro H1 locs1 hP1 hD1 hS1
        rw [hset] at hP1 hD1
        exact goS _ r q k1 _ (cO a (fs.set b v)) _ _ H1 locs1 hcell (by rintro ⟨_, _, h⟩; cases h) (by rintro ⟨_, _, h⟩; cases h) hk1 ⟨rfl, okL_set hof hov⟩ hP1 hD1 hS1 hk hor
      have hlen2 : b < (fs.map (rv as)).length := by rw [List.length_map]; exact hbl
      rcases hfin with hfin | ⟨hk2, hdc⟩
      · have hfin2 : (T b).2.2.2 = false := by cases hq : (T b).2.2.2 with | false => rfl | true => rw [hq] at hfin; cases hfin
        exact va_put (D := D) hx hb hts hws ty hty hnm hown hK hP hD hS k1 hk1 hcl b hbN hl2 (fun _ h9 => h9) hfin2 ht hnr hft hlen2 hd kk
      · cases hq : (T b).2.2.2 with
        | false => exact va_put (D := D) hx hb hts hws ty hty hnm hown hK hP hD hS k1 hk1 hcl b hbN hl2 (fun _ h9 => h9) hq ht hnr hft hlen2 hd kk
        | true => exact va_putF (D := D) hx hb hts hws ty hty hnm hown hK hP hD hS k1 hk1 hcl b hbN hl2 (fun _ h9 => h9) hq (hin hk2) hdc ht hnr hft hlen2 hd kk
    rcases htp with ⟨rfl, htp⟩ | ⟨rfl, htp⟩
    · (first | rw [pS_0] at h | rw [pS_1] at h | rw [pS_2] at h | rw [pS_3] at h | rw [pS_4] at h | rw [pS_5] at h | rw [pS_6] at h | rw [pS_7] at h | rw [pS_8] at h | rw [pS_9] at h | rw [pS_10] at h | rw [pS_11] at h | rw [pS_12] at h | rw [pS_13] at h | rw [pS_14] at h | rw [pS_15] at h | rw [pS_16] at h | rw [pS_17] at h | rw [pS_18] at h | rw [pS_19] at h | rw [pS_20] at h | rw [pS_21] at h | rw [pS_22] at h | rw [pS_23] at h | rw [pS_24] at h | rw [pS_25] at h | rw [pS_26] at h | rw [pS_27] at h | rw [pS_28] at h | rw [pS_29] at h | rw [pS_30] at h | rw [pS_31] at h | rw [pS_32] at h | rw [pS_33] at h | rw [pS_34] at h | rw [pS_35] at h | rw [pS_36] at h | rw [pS_37] at h | rw [pS_38] at h | rw [pS_39] at h | rw [pS_40] at h | rw [pS_41] at h | rw [pS_42] at h | rw [pS_43] at h | rw [pS_44] at h | rw [pS_45] at h | rw [pS_46] at h | rw [pS_47] at h | rw [pS_48] at h | rw [pS_49] at h | rw [pS_50] at h | rw [pS_51] at h | rw [pS_52] at h | rw [pS_53] at h | rw [pS_54] at h | rw [pS_55] at h | rw [pS_56] at h | rw [pS_57] at h | rw [pS_58] at h | rw [pS_59] at h | rw [pS_60] at h | rw [pS_61] at h | rw [pS_62] at h | rw [pS_63] at h | rw [pS_64] at h | rw [pS_65] at h | rw [pS_66] at h | rw [pS_67] at h)
      (have h0 := kI_i h); clear h; obtain ⟨v, r0, rfl, h⟩ := h0
      (have h0 := kA_i h); clear h; obtain ⟨q, r, rfl, h⟩ := h0
      obtain ⟨S1, hpf, h⟩ := bd_i h
      exact row q (.int v) r S1 .int htp rfl rfl trivial (okL_c.mp (okL_c.mp hst).2).2 hpf h
    · (first | rw [pS_0] at h | rw [pS_1] at h | rw [pS_2] at h | rw [pS_3] at h | rw [pS_4] at h | rw [pS_5] at h | rw [pS_6] at h | rw [pS_7] at h | rw [pS_8] at h | rw [pS_9] at h | rw [pS_10] at h | rw [pS_11] at h | rw [pS_12] at h | rw [pS_13] at h | rw [pS_14] at h | rw [pS_15] at h | rw [pS_16] at h | rw [pS_17] at h | rw [pS_18] at h | rw [pS_19] at h | rw [pS_20] at h | rw [pS_21] at h | rw [pS_22] at h | rw [pS_23] at h | rw [pS_24] at h | rw [pS_25] at h | rw [pS_26] at h | rw [pS_27] at h | rw [pS_28] at h | rw [pS_29] at h | rw [pS_30] at h | rw [pS_31] at h | rw [pS_32] at h | rw [pS_33] at h | rw [pS_34] at h | rw [pS_35] at h | rw [pS_36] at h | rw [pS_37] at h | rw [pS_38] at h | rw [pS_39] at h | rw [pS_40] at h | rw [pS_41] at h | rw [pS_42] at h | rw [pS_43] at h | rw [pS_44] at h | rw [pS_45] at h | rw [pS_46] at h | rw [pS_47] at h | rw [pS_48] at h | rw [pS_49] at h | rw [pS_50] at h | rw [pS_51] at h | rw [pS_52] at h | rw [pS_53] at h | rw [pS_54] at h | rw [pS_55] at h | rw [pS_56] at h | rw [pS_57] at h | rw [pS_58] at h | rw [pS_59] at h | rw [pS_60] at h | rw [pS_61] at h | rw [pS_62] at h | rw [pS_63] at h | rw [pS_64] at h | rw [pS_65] at h | rw [pS_66] at h | rw [pS_67] at h)
      (have h0 := kAn_i h); clear h; obtain ⟨v, r0, rfl, h⟩ := h0
      (have h0 := kA_i h); clear h; obtain ⟨q, r, rfl, h⟩ := h0
      obtain ⟨S1, hpf, h⟩ := bd_i h
      cases ht : parseFieldDescriptor (T b).2.2.1 with
      | none => rw [ht] at htp; cases htp
      | some t =>
        rw [ht] at htp
        have hnf : narrow t (rv as (va_rf v)) = rv as (va_rf v) ∧ fits t (rv as (va_rf v)) = true := by
          cases t <;> first | (cases htp; done) | (cases v <;> exact ⟨rfl, rfl⟩)
        exact row q (va_rf v) r S1 t ht hnf.1 hnf.2 (okL_c.mp hst).1 (okL_c.mp (okL_c.mp hst).2).2 hpf h
  case iaload =>
    simp only [ilen, Nat.beq_eq] at hlen
    simp only [okI, Bool.and_eq_true, Bool.or_eq_true, Nat.beq_eq, Nat.blt_eq, Nat.ble_eq, decide_eq_true_eq, beq_iff_eq] at hok
    subst hok
    subst hlen
    (first | rw [pS_0] at h | rw [pS_1] at h | rw [pS_2] at h | rw [pS_3] at h | rw [pS_4] at h | rw [pS_5] at h | rw [pS_6] at h | rw [pS_7] at h | rw [pS_8] at h | rw [pS_9] at h | rw [pS_10] at h | rw [pS_11] at h | rw [pS_12] at h | rw [pS_13] at h | rw [pS_14] at h | rw [pS_15] at h | rw [pS_16] at h | rw [pS_17] at h | rw [pS_18] at h | rw [pS_19] at h | rw [pS_20] at h | rw [pS_21] at h | rw [pS_22] at h | rw [pS_23] at h | rw [pS_24] at h | rw [pS_25] at h | rw [pS_26] at h | rw [pS_27] at h | rw [pS_28] at h | rw [pS_29] at h | rw [pS_30] at h | rw [pS_31] at h | rw [pS_32] at h | rw [pS_33] at h | rw [pS_34] at h | rw [pS_35] at h | rw [pS_36] at h | rw [pS_37] at h | rw [pS_38] at h | rw [pS_39] at h | rw [pS_40] at h | rw [pS_41] at h | rw [pS_42] at h | rw [pS_43] at h | rw [pS_44] at h | rw [pS_45] at h | rw [pS_46] at h | rw [pS_47] at h | rw [pS_48] at h | rw [pS_49] at h | rw [pS_50] at h | rw [pS_51] at h | rw [pS_52] at h | rw [pS_53] at h | rw [pS_54] at h | rw [pS_55] at h | rw [pS_56] at h | rw [pS_57] at h | rw [pS_58] at h | rw [pS_59] at h | rw [pS_60] at h | rw [pS_61] at h | rw [pS_62] at h | rw [pS_63] at h | rw [pS_64] at h | rw [pS_65] at h | rw [pS_66] at h | rw [pS_67] at h)
    (have h0 := kIA_i h); clear h; obtain ⟨q, j, r, rfl, h⟩ := h0
    obtain ⟨v, hv, h⟩ := bd_i h
    obtain ⟨n, f, hc, hi, rfl⟩ := gI_i hv
    have hr2 := (okL_c.mp (okL_c.mp hst).2).2
    have h2 := go _ (.int _ :: r) h (okL_c.mpr ⟨trivial, hr2⟩)
    rcases hc with hc | hc
    · obtain ⟨k, t, cA, hk, ht⟩ := HR_int hHR hc
      exact va_iald hx hb hK hP k t hk ht hi hd h2
    · obtain ⟨rfl, rfl, rfl⟩ := hAs.2.2 q n f hc
      have e1 : rv as (.ref (pSB + 1000)) = .ref E.2.2.1 := congrArg Value.ref hAs.2.1
      obtain ⟨hX, hbl, hbA⟩ := hE.2.2.2.2.2.2.2
      rw [List.map_cons, List.map_cons, e1]
      exact va_sld hx hb hX hbl hbA hS hi hd h2
  case iastore =>
    simp only [ilen, Nat.beq_eq] at hlen
    simp only [okI, Bool.and_eq_true, Bool.or_eq_true, Nat.beq_eq, Nat.blt_eq, Nat.ble_eq, decide_eq_true_eq, beq_iff_eq] at hok
    subst hok
    subst hlen
    (first | rw [pS_0] at h | rw [pS_1] at h | rw [pS_2] at h | rw [pS_3] at h | rw [pS_4] at h | rw [pS_5] at h | rw [pS_6] at h | rw [pS_7] at h | rw [pS_8] at h | rw [pS_9] at h | rw [pS_10] at h | rw [pS_11] at h | rw [pS_12] at h | rw [pS_13] at h | rw [pS_14] at h | rw [pS_15] at h | rw [pS_16] at h | rw [pS_17] at h | rw [pS_18] at h | rw [pS_19] at h | rw [pS_20] at h | rw [pS_21] at h | rw [pS_22] at h | rw [pS_23] at h | rw [pS_24] at h | rw [pS_25] at h | rw [pS_26] at h | rw [pS_27] at h | rw [pS_28] at h | rw [pS_29] at h | rw [pS_30] at h | rw [pS_31] at h | rw [pS_32] at h | rw [pS_33] at h | rw [pS_34] at h | rw [pS_35] at h | rw [pS_36] at h | rw [pS_37] at h | rw [pS_38] at h | rw [pS_39] at h | rw [pS_40] at h | rw [pS_41] at h | rw [pS_42] at h | rw [pS_43] at h | rw [pS_44] at h | rw [pS_45] at h | rw [pS_46] at h | rw [pS_47] at h | rw [pS_48] at h | rw [pS_49] at h | rw [pS_50] at h | rw [pS_51] at h | rw [pS_52] at h | rw [pS_53] at h | rw [pS_54] at h | rw [pS_55] at h | rw [pS_56] at h | rw [pS_57] at h | rw [pS_58] at h | rw [pS_59] at h | rw [pS_60] at h | rw [pS_61] at h | rw [pS_62] at h | rw [pS_63] at h | rw [pS_64] at h | rw [pS_65] at h | rw [pS_66] at h | rw [pS_67] at h)
    (have h0 := kIIA_i h); clear h; obtain ⟨q, j, v, r, rfl, h⟩ := h0
    obtain ⟨S1, hv, h⟩ := bd_i h
    obtain ⟨n, f, hc, hi, rfl⟩ := pI_i hv
    have hr2 := (okL_c.mp (okL_c.mp (okL_c.mp hst).2).2).2
    obtain ⟨k, t, cA, hk, ht⟩ := HR_int hHR hc
    exact va_iast hx hb hK hP hD hS k t hk ht hi hd (fun H1 locs1 hP1 hD1 hS1 => goS _ r q k _ (cI n (upd f j.toNatClampNeg v)) _ _ H1 locs1 hc (by rintro ⟨_, _, h⟩; cases h) (by rintro ⟨_, _, h⟩; cases h) hk ⟨cA, List.mem_of_getElem? ht, rfl⟩ hP1 hD1 hS1 h hr2)
  case laload =>
    simp only [ilen, Nat.beq_eq] at hlen
    simp only [okI, Bool.and_eq_true, Bool.or_eq_true, Nat.beq_eq, Nat.blt_eq, Nat.ble_eq, decide_eq_true_eq, beq_iff_eq] at hok
    subst hok
    subst hlen
    (first | rw [pS_0] at h | rw [pS_1] at h | rw [pS_2] at h | rw [pS_3] at h | rw [pS_4] at h | rw [pS_5] at h | rw [pS_6] at h | rw [pS_7] at h | rw [pS_8] at h | rw [pS_9] at h | rw [pS_10] at h | rw [pS_11] at h | rw [pS_12] at h | rw [pS_13] at h | rw [pS_14] at h | rw [pS_15] at h | rw [pS_16] at h | rw [pS_17] at h | rw [pS_18] at h | rw [pS_19] at h | rw [pS_20] at h | rw [pS_21] at h | rw [pS_22] at h | rw [pS_23] at h | rw [pS_24] at h | rw [pS_25] at h | rw [pS_26] at h | rw [pS_27] at h | rw [pS_28] at h | rw [pS_29] at h | rw [pS_30] at h | rw [pS_31] at h | rw [pS_32] at h | rw [pS_33] at h | rw [pS_34] at h | rw [pS_35] at h | rw [pS_36] at h | rw [pS_37] at h | rw [pS_38] at h | rw [pS_39] at h | rw [pS_40] at h | rw [pS_41] at h | rw [pS_42] at h | rw [pS_43] at h | rw [pS_44] at h | rw [pS_45] at h | rw [pS_46] at h | rw [pS_47] at h | rw [pS_48] at h | rw [pS_49] at h | rw [pS_50] at h | rw [pS_51] at h | rw [pS_52] at h | rw [pS_53] at h | rw [pS_54] at h | rw [pS_55] at h | rw [pS_56] at h | rw [pS_57] at h | rw [pS_58] at h | rw [pS_59] at h | rw [pS_60] at h | rw [pS_61] at h | rw [pS_62] at h | rw [pS_63] at h | rw [pS_64] at h | rw [pS_65] at h | rw [pS_66] at h | rw [pS_67] at h)
    (have h0 := kIA_i h); clear h; obtain ⟨q, j, r, rfl, h⟩ := h0
    obtain ⟨v, hv, h⟩ := bd_i h
    obtain ⟨n, f, hc, hi, rfl⟩ := gL_i hv
    have hr2 := (okL_c.mp (okL_c.mp hst).2).2
    obtain ⟨k, t, cA, hk, ht⟩ := HR_long hHR hc
    exact va_lald hx hb hK hP k t hk ht hi hd (go _ (.long _ :: r) h (okL_c.mpr ⟨trivial, hr2⟩))
  case lastore =>
    simp only [ilen, Nat.beq_eq] at hlen
    simp only [okI, Bool.and_eq_true, Bool.or_eq_true, Nat.beq_eq, Nat.blt_eq, Nat.ble_eq, decide_eq_true_eq, beq_iff_eq] at hok
    subst hok
    subst hlen
    (first | rw [pS_0] at h | rw [pS_1] at h | rw [pS_2] at h | rw [pS_3] at h | rw [pS_4] at h | rw [pS_5] at h | rw [pS_6] at h | rw [pS_7] at h | rw [pS_8] at h | rw [pS_9] at h | rw [pS_10] at h | rw [pS_11] at h | rw [pS_12] at h | rw [pS_13] at h | rw [pS_14] at h | rw [pS_15] at h | rw [pS_16] at h | rw [pS_17] at h | rw [pS_18] at h | rw [pS_19] at h | rw [pS_20] at h | rw [pS_21] at h | rw [pS_22] at h | rw [pS_23] at h | rw [pS_24] at h | rw [pS_25] at h | rw [pS_26] at h | rw [pS_27] at h | rw [pS_28] at h | rw [pS_29] at h | rw [pS_30] at h | rw [pS_31] at h | rw [pS_32] at h | rw [pS_33] at h | rw [pS_34] at h | rw [pS_35] at h | rw [pS_36] at h | rw [pS_37] at h | rw [pS_38] at h | rw [pS_39] at h | rw [pS_40] at h | rw [pS_41] at h | rw [pS_42] at h | rw [pS_43] at h | rw [pS_44] at h | rw [pS_45] at h | rw [pS_46] at h | rw [pS_47] at h | rw [pS_48] at h | rw [pS_49] at h | rw [pS_50] at h | rw [pS_51] at h | rw [pS_52] at h | rw [pS_53] at h | rw [pS_54] at h | rw [pS_55] at h | rw [pS_56] at h | rw [pS_57] at h | rw [pS_58] at h | rw [pS_59] at h | rw [pS_60] at h | rw [pS_61] at h | rw [pS_62] at h | rw [pS_63] at h | rw [pS_64] at h | rw [pS_65] at h | rw [pS_66] at h | rw [pS_67] at h)
    (have h0 := kJIA_i h); clear h; obtain ⟨q, j, v, r, rfl, h⟩ := h0
    obtain ⟨S1, hv, h⟩ := bd_i h
    obtain ⟨n, f, hc, hi, rfl⟩ := pL_i hv
    have hr2 := (okL_c.mp (okL_c.mp (okL_c.mp hst).2).2).2
    obtain ⟨k, t, cA, hk, ht⟩ := HR_long hHR hc
    exact va_last hx hb hK hP hD hS k t hk ht hi hd (fun H1 locs1 hP1 hD1 hS1 => goS _ r q k _ (cL n (vp_updL f j.toNatClampNeg v)) _ _ H1 locs1 hc (by rintro ⟨_, _, h⟩; cases h) (by rintro ⟨_, _, h⟩; cases h) hk ⟨cA, List.mem_of_getElem? ht, rfl⟩ hP1 hD1 hS1 h hr2)
  case aaload =>
    simp only [ilen, Nat.beq_eq] at hlen
    simp only [okI, Bool.and_eq_true, Bool.or_eq_true, Nat.beq_eq, Nat.blt_eq, Nat.ble_eq, decide_eq_true_eq, beq_iff_eq] at hok
    subst hok
    subst hlen
    (first | rw [pS_0] at h | rw [pS_1] at h | rw [pS_2] at h | rw [pS_3] at h | rw [pS_4] at h | rw [pS_5] at h | rw [pS_6] at h | rw [pS_7] at h | rw [pS_8] at h | rw [pS_9] at h | rw [pS_10] at h | rw [pS_11] at h | rw [pS_12] at h | rw [pS_13] at h | rw [pS_14] at h | rw [pS_15] at h | rw [pS_16] at h | rw [pS_17] at h | rw [pS_18] at h | rw [pS_19] at h | rw [pS_20] at h | rw [pS_21] at h | rw [pS_22] at h | rw [pS_23] at h | rw [pS_24] at h | rw [pS_25] at h | rw [pS_26] at h | rw [pS_27] at h | rw [pS_28] at h | rw [pS_29] at h | rw [pS_30] at h | rw [pS_31] at h | rw [pS_32] at h | rw [pS_33] at h | rw [pS_34] at h | rw [pS_35] at h | rw [pS_36] at h | rw [pS_37] at h | rw [pS_38] at h | rw [pS_39] at h | rw [pS_40] at h | rw [pS_41] at h | rw [pS_42] at h | rw [pS_43] at h | rw [pS_44] at h | rw [pS_45] at h | rw [pS_46] at h | rw [pS_47] at h | rw [pS_48] at h | rw [pS_49] at h | rw [pS_50] at h | rw [pS_51] at h | rw [pS_52] at h | rw [pS_53] at h | rw [pS_54] at h | rw [pS_55] at h | rw [pS_56] at h | rw [pS_57] at h | rw [pS_58] at h | rw [pS_59] at h | rw [pS_60] at h | rw [pS_61] at h | rw [pS_62] at h | rw [pS_63] at h | rw [pS_64] at h | rw [pS_65] at h | rw [pS_66] at h | rw [pS_67] at h)
    (have h0 := kIA_i h); clear h; obtain ⟨q, j, r, rfl, h⟩ := h0
    obtain ⟨v, hv, h⟩ := bd_i h
    obtain ⟨n, f, hc, hi, rfl⟩ := gQ_i hv
    have hr2 := (okL_c.mp (okL_c.mp hst).2).2
    obtain ⟨⟨k, t, cA, hk, ht⟩, hof⟩ := HR_ref hHR hc
    refine va_aldq hx hb hK hP k t hk ht hi hd ?_
    have e1 : va_rf ((f j.toNatClampNeg).map as) = rv as (va_rf (f j.toNatClampNeg)) := (rv_rf as _).symm
    show W p l e R s m args below meth c H locs (S.1 - n0) (S.2.1 - sl0) Q (F0 m (pc + 1) mls (va_rf ((f j.toNatClampNeg).map as) :: r.map (rv as)))
    rw [e1]
    rcases oN_i h with ⟨e2, h⟩ | ⟨w, e2, h⟩
    · rw [e2]; exact go _ (.null :: r) h (okL_c.mpr ⟨trivial, hr2⟩)
    · rw [e2]; exact go _ (.ref w :: r) h (okL_c.mpr ⟨hof _ _ e2, hr2⟩)
  case aastore =>
    simp only [ilen, Nat.beq_eq] at hlen
    simp only [okI, Bool.and_eq_true, Bool.or_eq_true, Nat.beq_eq, Nat.blt_eq, Nat.ble_eq, decide_eq_true_eq, beq_iff_eq] at hok
    subst hok
    subst hlen
    (first | rw [pS_0] at h | rw [pS_1] at h | rw [pS_2] at h | rw [pS_3] at h | rw [pS_4] at h | rw [pS_5] at h | rw [pS_6] at h | rw [pS_7] at h | rw [pS_8] at h | rw [pS_9] at h | rw [pS_10] at h | rw [pS_11] at h | rw [pS_12] at h | rw [pS_13] at h | rw [pS_14] at h | rw [pS_15] at h | rw [pS_16] at h | rw [pS_17] at h | rw [pS_18] at h | rw [pS_19] at h | rw [pS_20] at h | rw [pS_21] at h | rw [pS_22] at h | rw [pS_23] at h | rw [pS_24] at h | rw [pS_25] at h | rw [pS_26] at h | rw [pS_27] at h | rw [pS_28] at h | rw [pS_29] at h | rw [pS_30] at h | rw [pS_31] at h | rw [pS_32] at h | rw [pS_33] at h | rw [pS_34] at h | rw [pS_35] at h | rw [pS_36] at h | rw [pS_37] at h | rw [pS_38] at h | rw [pS_39] at h | rw [pS_40] at h | rw [pS_41] at h | rw [pS_42] at h | rw [pS_43] at h | rw [pS_44] at h | rw [pS_45] at h | rw [pS_46] at h | rw [pS_47] at h | rw [pS_48] at h | rw [pS_49] at h | rw [pS_50] at h | rw [pS_51] at h | rw [pS_52] at h | rw [pS_53] at h | rw [pS_54] at h | rw [pS_55] at h | rw [pS_56] at h | rw [pS_57] at h | rw [pS_58] at h | rw [pS_59] at h | rw [pS_60] at h | rw [pS_61] at h | rw [pS_62] at h | rw [pS_63] at h | rw [pS_64] at h | rw [pS_65] at h | rw [pS_66] at h | rw [pS_67] at h)
    (have h0 := kAIA_i h); clear h; obtain ⟨q, j, v, r, rfl, h⟩ := h0
    obtain ⟨S1, hv, h⟩ := bd_i h
    obtain ⟨n, f, hc, hi, rfl, hvv⟩ := pQ_i hv
    have hr2 := (okL_c.mp (okL_c.mp (okL_c.mp hst).2).2).2
    obtain ⟨⟨k, t, cA, hk, ht⟩, hof⟩ := HR_ref hHR hc
    have hmap : ∀ v : Option Nat, (fun y => (va_up f j.toNatClampNeg v y).map as) = va_up (fun y => (f y).map as) j.toNatClampNeg (v.map as) := by
      intro v; funext y; unfold va_up; split <;> rfl
    have hov : ∀ y r, va_up f j.toNatClampNeg v y = some r → okR S.1 r := by
      intro y r hy
      unfold va_up at hy
      split at hy
      · subst hy; exact (okL_c.mp hst).1
      · exact hof _ _ hy
    rcases hvv with rfl | ⟨w, fs, rfl, hg⟩
    · refine va_astqN hx hb hK hP hD hS k t hk ht hi hd (fun H1 locs1 hP1 hD1 hS1 => ?_)
      exact goS _ r q k _ (cQ n (va_up f j.toNatClampNeg none)) _ _ H1 locs1 hc (by rintro ⟨_, _, h⟩; cases h) (by rintro ⟨_, _, h⟩; cases h) hk ⟨⟨cA, List.mem_of_getElem? ht, by rw [hmap]; rfl⟩, hov⟩ hP1 hD1 hS1 h hr2
    · obtain ⟨-, ⟨k2, hk2⟩, -, -⟩ := HR_obj hHR hg
      refine va_astq (r := (RX2, TX2, 3)) hx hb hK hP hD hS k t k2 2 hk ht hk2 rfl hi hd (fun H1 locs1 hP1 hD1 hS1 => ?_)
      exact goS _ r q k _ (cQ n (va_up f j.toNatClampNeg (some w))) _ _ H1 locs1 hc (by rintro ⟨_, _, h⟩; cases h) (by rintro ⟨_, _, h⟩; cases h) hk ⟨⟨cA, List.mem_of_getElem? ht, by rw [hmap]; rfl⟩, hov⟩ hP1 hD1 hS1 h hr2
  case arraylength =>
    simp only [ilen, Nat.beq_eq] at hlen
    simp only [okI, Bool.and_eq_true, Bool.or_eq_true, Nat.beq_eq, Nat.blt_eq, Nat.ble_eq, decide_eq_true_eq, beq_iff_eq] at hok
    subst hok
    subst hlen
    (first | rw [pS_0] at h | rw [pS_1] at h | rw [pS_2] at h | rw [pS_3] at h | rw [pS_4] at h | rw [pS_5] at h | rw [pS_6] at h | rw [pS_7] at h | rw [pS_8] at h | rw [pS_9] at h | rw [pS_10] at h | rw [pS_11] at h | rw [pS_12] at h | rw [pS_13] at h | rw [pS_14] at h | rw [pS_15] at h | rw [pS_16] at h | rw [pS_17] at h | rw [pS_18] at h | rw [pS_19] at h | rw [pS_20] at h | rw [pS_21] at h | rw [pS_22] at h | rw [pS_23] at h | rw [pS_24] at h | rw [pS_25] at h | rw [pS_26] at h | rw [pS_27] at h | rw [pS_28] at h | rw [pS_29] at h | rw [pS_30] at h | rw [pS_31] at h | rw [pS_32] at h | rw [pS_33] at h | rw [pS_34] at h | rw [pS_35] at h | rw [pS_36] at h | rw [pS_37] at h | rw [pS_38] at h | rw [pS_39] at h | rw [pS_40] at h | rw [pS_41] at h | rw [pS_42] at h | rw [pS_43] at h | rw [pS_44] at h | rw [pS_45] at h | rw [pS_46] at h | rw [pS_47] at h | rw [pS_48] at h | rw [pS_49] at h | rw [pS_50] at h | rw [pS_51] at h | rw [pS_52] at h | rw [pS_53] at h | rw [pS_54] at h | rw [pS_55] at h | rw [pS_56] at h | rw [pS_57] at h | rw [pS_58] at h | rw [pS_59] at h | rw [pS_60] at h | rw [pS_61] at h | rw [pS_62] at h | rw [pS_63] at h | rw [pS_64] at h | rw [pS_65] at h | rw [pS_66] at h | rw [pS_67] at h)
    (have h0 := kA_i h); clear h; obtain ⟨q, r, rfl, h⟩ := h0
    obtain ⟨v, hv, h⟩ := bd_i h
    have hr2 := (okL_c.mp hst).2
    have h2 := go _ (.int v :: r) h (okL_c.mpr ⟨trivial, hr2⟩)
    unfold gN at hv
    split at hv
    · next n f hc => cases hv; obtain ⟨k, t, cA, hk, ht⟩ := HR_int hHR hc; exact va_alen hx hb hK hP k t hk ht rfl hd h2
    · next n f hc => cases hv; obtain ⟨k, t, cA, hk, ht⟩ := HR_long hHR hc; exact va_alen hx hb hK hP k t hk ht rfl hd h2
    · next n f hc => cases hv; obtain ⟨⟨k, t, cA, hk, ht⟩, -⟩ := HR_ref hHR hc; exact va_alen hx hb hK hP k t hk ht rfl hd h2
    · next n f hc =>
      cases hv
      obtain ⟨rfl, rfl, rfl⟩ := hAs.2.2 q n f hc
      have e1 : rv as (.ref (pSB + 1000)) = .ref E.2.2.1 := congrArg Value.ref hAs.2.1
      obtain ⟨hX, hbl, hbA⟩ := hE.2.2.2.2.2.2.2
      rw [List.map_cons, e1]
      exact va_slen hx hb hX hbl hbA hS hd h2
    · cases hv
  case newarray at_ =>
    simp only [ilen, Nat.beq_eq] at hlen
    subst hlen
    cases at_ <;> first | (simp [okI] at hok; done) | skip
    · simp only [okI, Nat.beq_eq] at hok
      subst hok
      (first | rw [pS_0] at h | rw [pS_1] at h | rw [pS_2] at h | rw [pS_3] at h | rw [pS_4] at h | rw [pS_5] at h | rw [pS_6] at h | rw [pS_7] at h | rw [pS_8] at h | rw [pS_9] at h | rw [pS_10] at h | rw [pS_11] at h | rw [pS_12] at h | rw [pS_13] at h | rw [pS_14] at h | rw [pS_15] at h | rw [pS_16] at h | rw [pS_17] at h | rw [pS_18] at h | rw [pS_19] at h | rw [pS_20] at h | rw [pS_21] at h | rw [pS_22] at h | rw [pS_23] at h | rw [pS_24] at h | rw [pS_25] at h | rw [pS_26] at h | rw [pS_27] at h | rw [pS_28] at h | rw [pS_29] at h | rw [pS_30] at h | rw [pS_31] at h | rw [pS_32] at h | rw [pS_33] at h | rw [pS_34] at h | rw [pS_35] at h | rw [pS_36] at h | rw [pS_37] at h | rw [pS_38] at h | rw [pS_39] at h | rw [pS_40] at h | rw [pS_41] at h | rw [pS_42] at h | rw [pS_43] at h | rw [pS_44] at h | rw [pS_45] at h | rw [pS_46] at h | rw [pS_47] at h | rw [pS_48] at h | rw [pS_49] at h | rw [pS_50] at h | rw [pS_51] at h | rw [pS_52] at h | rw [pS_53] at h | rw [pS_54] at h | rw [pS_55] at h | rw [pS_56] at h | rw [pS_57] at h | rw [pS_58] at h | rw [pS_59] at h | rw [pS_60] at h | rw [pS_61] at h | rw [pS_62] at h | rw [pS_63] at h | rw [pS_64] at h | rw [pS_65] at h | rw [pS_66] at h | rw [pS_67] at h)
      (have h0 := kI_i h); clear h; obtain ⟨v, r, rfl, h⟩ := h0
      obtain ⟨hv, h⟩ := if_i h
      simp only [not_or, Nat.not_lt] at hv
      obtain ⟨hn, hc1, hs1, e1, e2⟩ := room _ _ _ _ h
      refine va_newa (D := D) (ty := .int) (a0 := (v.toNatClampNeg, .inl (fun _ => 0))) hx hb (hts _ arrI_in) rfl hK hP hD hS hA (fun _ => rfl) hv.1 rfl (by show v.toNatClampNeg * 4 ≤ _; omega) hc1 hs1 hd (fun q cA H1 hK1 hP1 hD1 hS1 => ?_)
      rw [e1, e2]
      exact goN _ r q _ (cI v.toNatClampNeg (fun _ => 0)) _ _ H1 hn (by rintro ⟨_, _, h⟩; cases h) (fun y hy => List.mem_append_left _ hy) hK1 ⟨cA, by simp, rfl⟩ hP1 hD1 hS1 h (okL_c.mp hst).2
    · simp only [okI, Nat.beq_eq] at hok
      subst hok
      (first | rw [pS_0] at h | rw [pS_1] at h | rw [pS_2] at h | rw [pS_3] at h | rw [pS_4] at h | rw [pS_5] at h | rw [pS_6] at h | rw [pS_7] at h | rw [pS_8] at h | rw [pS_9] at h | rw [pS_10] at h | rw [pS_11] at h | rw [pS_12] at h | rw [pS_13] at h | rw [pS_14] at h | rw [pS_15] at h | rw [pS_16] at h | rw [pS_17] at h | rw [pS_18] at h | rw [pS_19] at h | rw [pS_20] at h | rw [pS_21] at h | rw [pS_22] at h | rw [pS_23] at h | rw [pS_24] at h | rw [pS_25] at h | rw [pS_26] at h | rw [pS_27] at h | rw [pS_28] at h | rw [pS_29] at h | rw [pS_30] at h | rw [pS_31] at h | rw [pS_32] at h | rw [pS_33] at h | rw [pS_34] at h | rw [pS_35] at h | rw [pS_36] at h | rw [pS_37] at h | rw [pS_38] at h | rw [pS_39] at h | rw [pS_40] at h | rw [pS_41] at h | rw [pS_42] at h | rw [pS_43] at h | rw [pS_44] at h | rw [pS_45] at h | rw [pS_46] at h | rw [pS_47] at h | rw [pS_48] at h | rw [pS_49] at h | rw [pS_50] at h | rw [pS_51] at h | rw [pS_52] at h | rw [pS_53] at h | rw [pS_54] at h | rw [pS_55] at h | rw [pS_56] at h | rw [pS_57] at h | rw [pS_58] at h | rw [pS_59] at h | rw [pS_60] at h | rw [pS_61] at h | rw [pS_62] at h | rw [pS_63] at h | rw [pS_64] at h | rw [pS_65] at h | rw [pS_66] at h | rw [pS_67] at h)
      (have h0 := kI_i h); clear h; obtain ⟨v, r, rfl, h⟩ := h0
      obtain ⟨hv, h⟩ := if_i h
      simp only [not_or, Nat.not_lt] at hv
      obtain ⟨hn, hc1, hs1, e1, e2⟩ := room _ _ _ _ h
      refine va_newa (D := D) (ty := .long) (a0 := (v.toNatClampNeg, .inr (.inl (fun _ => 0)))) hx hb (hts _ arrJ_in) rfl hK hP hD hS hA (fun _ => rfl) hv.1 rfl (by show v.toNatClampNeg * 8 ≤ _; omega) hc1 hs1 hd (fun q cA H1 hK1 hP1 hD1 hS1 => ?_)
      rw [e1, e2]
      exact goN _ r q _ (cL v.toNatClampNeg (fun _ => 0)) _ _ H1 hn (by rintro ⟨_, _, h⟩; cases h) (fun y hy => List.mem_append_left _ hy) hK1 ⟨cA, by simp, rfl⟩ hP1 hD1 hS1 h (okL_c.mp hst).2
  case anewarray k =>
    simp only [ilen, Nat.beq_eq] at hlen
    simp only [okI, Bool.and_eq_true, Nat.beq_eq] at hok
    obtain ⟨rfl, hcl⟩ := hok
    subst hlen
    (first | rw [pS_0] at h | rw [pS_1] at h | rw [pS_2] at h | rw [pS_3] at h | rw [pS_4] at h | rw [pS_5] at h | rw [pS_6] at h | rw [pS_7] at h | rw [pS_8] at h | rw [pS_9] at h | rw [pS_10] at h | rw [pS_11] at h | rw [pS_12] at h | rw [pS_13] at h | rw [pS_14] at h | rw [pS_15] at h | rw [pS_16] at h | rw [pS_17] at h | rw [pS_18] at h | rw [pS_19] at h | rw [pS_20] at h | rw [pS_21] at h | rw [pS_22] at h | rw [pS_23] at h | rw [pS_24] at h | rw [pS_25] at h | rw [pS_26] at h | rw [pS_27] at h | rw [pS_28] at h | rw [pS_29] at h | rw [pS_30] at h | rw [pS_31] at h | rw [pS_32] at h | rw [pS_33] at h | rw [pS_34] at h | rw [pS_35] at h | rw [pS_36] at h | rw [pS_37] at h | rw [pS_38] at h | rw [pS_39] at h | rw [pS_40] at h | rw [pS_41] at h | rw [pS_42] at h | rw [pS_43] at h | rw [pS_44] at h | rw [pS_45] at h | rw [pS_46] at h | rw [pS_47] at h | rw [pS_48] at h | rw [pS_49] at h | rw [pS_50] at h | rw [pS_51] at h | rw [pS_52] at h | rw [pS_53] at h | rw [pS_54] at h | rw [pS_55] at h | rw [pS_56] at h | rw [pS_57] at h | rw [pS_58] at h | rw [pS_59] at h | rw [pS_60] at h | rw [pS_61] at h | rw [pS_62] at h | rw [pS_63] at h | rw [pS_64] at h | rw [pS_65] at h | rw [pS_66] at h | rw [pS_67] at h)
    (have h0 := kI_i h); clear h; obtain ⟨v, r, rfl, h⟩ := h0
    obtain ⟨hv, h⟩ := if_i h
    simp only [not_or, Nat.not_lt] at hv
    obtain ⟨hn, hc1, hs1, e1, e2⟩ := room _ _ _ _ h
    refine va_newq (D := D) (C := RX2) hx hb hown (hts _ (CL_ok _ (List.contains_iff_mem.mp hcl))) hE.2.2.2.2.2.1.2.2 hK hP hD hS hA hv.1 rfl (by omega) hc1 hs1 hd (fun q cA H1 hK1 hP1 hD1 hS1 => ?_)
    rw [e1, e2]
    exact goN _ r q _ (cQ v.toNatClampNeg (fun _ => none)) _ _ H1 hn (by rintro ⟨_, _, h⟩; cases h) (fun y hy => List.mem_append_left _ hy) hK1 ⟨⟨cA, by simp, rfl⟩, fun _ _ h => by cases h⟩ hP1 hD1 hS1 h (okL_c.mp hst).2
  case new k =>
    simp only [ilen, Nat.beq_eq] at hlen
    simp only [okI, Bool.and_eq_true, Bool.or_eq_true, Nat.beq_eq, Nat.blt_eq, decide_eq_true_eq] at hok
    subst hlen
    rcases hok with ⟨⟨⟨rfl, ha⟩, hbN⟩, hcl0⟩ | hok
    · (first | rw [pS_0] at h | rw [pS_1] at h | rw [pS_2] at h | rw [pS_3] at h | rw [pS_4] at h | rw [pS_5] at h | rw [pS_6] at h | rw [pS_7] at h | rw [pS_8] at h | rw [pS_9] at h | rw [pS_10] at h | rw [pS_11] at h | rw [pS_12] at h | rw [pS_13] at h | rw [pS_14] at h | rw [pS_15] at h | rw [pS_16] at h | rw [pS_17] at h | rw [pS_18] at h | rw [pS_19] at h | rw [pS_20] at h | rw [pS_21] at h | rw [pS_22] at h | rw [pS_23] at h | rw [pS_24] at h | rw [pS_25] at h | rw [pS_26] at h | rw [pS_27] at h | rw [pS_28] at h | rw [pS_29] at h | rw [pS_30] at h | rw [pS_31] at h | rw [pS_32] at h | rw [pS_33] at h | rw [pS_34] at h | rw [pS_35] at h | rw [pS_36] at h | rw [pS_37] at h | rw [pS_38] at h | rw [pS_39] at h | rw [pS_40] at h | rw [pS_41] at h | rw [pS_42] at h | rw [pS_43] at h | rw [pS_44] at h | rw [pS_45] at h | rw [pS_46] at h | rw [pS_47] at h | rw [pS_48] at h | rw [pS_49] at h | rw [pS_50] at h | rw [pS_51] at h | rw [pS_52] at h | rw [pS_53] at h | rw [pS_54] at h | rw [pS_55] at h | rw [pS_56] at h | rw [pS_57] at h | rw [pS_58] at h | rw [pS_59] at h | rw [pS_60] at h | rw [pS_61] at h | rw [pS_62] at h | rw [pS_63] at h | rw [pS_64] at h | rw [pS_65] at h | rw [pS_66] at h | rw [pS_67] at h)
      obtain ⟨C0, T, N, ty, hcl, hws, hty, hnm, hdf, hdfl⟩ := clF a ha
      rw [fN_of hcl] at hbN
      subst hbN
      obtain ⟨hn, hc1, hs1, e1, e2⟩ := room _ _ _ _ h
      have hl1 := hts _ (CL_ok _ (List.contains_iff_mem.mp hcl0))
      have hcn : clN a = C0 := by
        have : Nat.ble 100 a = false := by
          cases hq : Nat.ble 100 a with
          | false => rfl
          | true => have := Nat.le_of_ble_eq_true hq; omega
        simp [clN, this, hcl]
      have hl2 := hts _ (IN_ok a ha)
      have hl3 := hts _ (zW_in a ha)
      simp only [cW, hcn] at hl1
      simp only [iW, hcl] at hl2
      simp only [zW, hcn] at hl3
      refine va_new (D := D) (ci := a) hx hb hts hws ty hty hown hl1 hl2 hl3 hK hP hD hS hA hcl hdf hc1 hs1 hd (fun q H1 hP1 hD1 hS1 => ?_)
      rw [e1, e2]
      exact goN _ st q _ (cO a (pD0.getD a [])) _ tys H1 hn (by rintro ⟨_, _, h⟩; cases h) (fun y hy => hy) hK ⟨by rw [(dfl_i hdfl _ 0).1], (dfl_i hdfl as (S.1 + 1)).2⟩ hP1 hD1 hS1 h hst
    · omega
  case if_icmp cd zz => exfalso; cases cd <;> simp [okI, cdN] at hok <;> omega
  case ifCond cd zz => exfalso; cases cd <;> simp [okI, cdN] at hok <;> omega
  case ldc k => exfalso; simp only [okI, Bool.and_eq_true, Bool.or_eq_true, Nat.beq_eq] at hok; rcases hok with ⟨h9, -⟩ | ⟨h9, -⟩ <;> omega
  case ldc_w k => exfalso; simp only [okI, Bool.and_eq_true, Bool.or_eq_true, Nat.beq_eq] at hok; rcases hok with ⟨h9, -⟩ | ⟨h9, -⟩ <;> omega
  case invokevirtual k => exfalso; simp only [okI, Bool.and_eq_true, Bool.or_eq_true, Nat.beq_eq] at hok; rcases hok with (⟨h9, -⟩ | ⟨h9, -⟩) | ⟨h9, -⟩ <;> omega
  case invokestatic k => exfalso; simp only [okI, Bool.and_eq_true, Bool.or_eq_true, Nat.beq_eq] at hok; rcases hok with (((⟨h9, -⟩ | ⟨h9, -⟩) | ⟨h9, -⟩) | ⟨h9, -⟩) | ⟨h9, -⟩ <;> omega
  case invokespecial k => exfalso; simp only [okI, Bool.and_eq_true, Bool.or_eq_true, Nat.beq_eq] at hok; rcases hok with (⟨h9, -⟩ | ⟨h9, -⟩) | h9 <;> omega
  all_goals first | (simp [okI] at hok; done) | (exfalso; simp [okI] at hok; omega)
end
section
/-! METHODS BY NUMBER -/
def mFb (M : Nat) : Bool := Nat.beq (mK M) 4 || (plainName (mY M).cls && decide ((mY M).cls ≠ "java/lang/invoke/MethodHandle") && decide ((mY M).cls ≠ "java/lang/invoke/VarHandle") && decide (oS (mO M) = (mY M).cls) && (!Nat.beq (mK M) 2 || decide ((mY M).name = "<init>")) && (Nat.beq (mK M) 3 || (hnd M).isEmpty) && Nat.ble (mxL M) 12 && (!Nat.beq (mK M) 2 || decide (mT M = none)))
set_option maxRecDepth 100000 in
theorem mF_all : (List.range 312).all mFb = true := by decide +kernel
theorem mF {M : Nat} (hM : M < 312) (hk : mK M ≠ 4) : plainName (mY M).cls = true ∧ ((mY M).cls ≠ "java/lang/invoke/MethodHandle" ∧ (mY M).cls ≠ "java/lang/invoke/VarHandle") ∧ oS (mO M) = (mY M).cls ∧ (mK M = 2 → (mY M).name = "<init>") ∧ (mK M ≠ 3 → hnd M = []) ∧ mxL M ≤ 12 ∧ (mK M = 2 → mT M = none) := by
  have h := List.all_eq_true.mp mF_all M (List.mem_range.mpr hM)
  simp only [mFb, Bool.or_eq_true, Bool.and_eq_true, Nat.beq_eq, decide_eq_true_eq, Bool.not_eq_true', List.isEmpty_iff, Nat.ble_eq] at h
  rcases h with h | ⟨⟨⟨⟨⟨⟨⟨h1, h2⟩, h3⟩, h4⟩, h5⟩, h6⟩, h7⟩, h8⟩
  · exact absurd h hk
  · refine ⟨h1, ⟨h2, h3⟩, h4, fun e => ?_, fun e => ?_, h7, fun e => ?_⟩
    · rcases h5 with h5 | h5
      · rw [e] at h5; cases h5
      · exact h5
    · rcases h6 with h6 | h6
      · exact absurd h6 e
      · exact h6
    · rcases h8 with h8 | h8
      · rw [e] at h8; cases h8
      · exact h8
theorem mC_in : ∀ M, M < 312 → mK M ≠ 4 → mC M ∈ wT := by
  intro M h hk
  match M, h with
  | 0, _ => exact mC_0
  | 1, _ => exact mC_1
  | 2, _ => exact mC_2
  | 3, _ => exact mC_3
  | 4, _ => exact mC_4
  | 5, _ => exact mC_5
  | 6, _ => exact mC_6
  | 7, _ => exact mC_7
  | 8, _ => exact mC_8
  | 9, _ => exact mC_9
  | 10, _ => exact mC_10
  | 11, _ => exact mC_11
  | 12, _ => exact mC_12
  | 13, _ => exact mC_13
  | 14, _ => exact mC_14
  | 15, _ => exact mC_15
  | 16, _ => exact mC_16
  | 17, _ => exact mC_17
  | 18, _ => exact mC_18
  | 19, _ => exact mC_19
  | 20, _ => exact mC_20
  | 21, _ => exact mC_21
  | 22, _ => exact mC_22
  | 23, _ => exact mC_23
  | 24, _ => exact mC_24
  | 25, _ => exact mC_25
  | 26, _ => exact mC_26
  | 27, _ => exact mC_27
  | 28, _ => exact mC_28
  | 29, _ => exact mC_29
  | 30, _ => exact mC_30
  | 31, _ => exact mC_31
  | 32, _ => exact mC_32
  | 33, _ => exact mC_33
  | 34, _ => exact mC_34
  | 35, _ => exact mC_35
  | 36, _ => exact mC_36
  | 37, _ => exact mC_37
  | 38, _ => exact mC_38
  | 39, _ => exact mC_39
  | 40, _ => exact mC_40
  | 41, _ => exact mC_41
  | 42, _ => exact mC_42
  | 43, _ => exact mC_43
  | 44, _ => exact mC_44
  | 45, _ => exact mC_45
  | 46, _ => exact mC_46
  | 47, _ => exact mC_47
  | 48, _ => exact mC_48
  | 49, _ => exact mC_49
  | 50, _ => exact mC_50
  | 51, _ => exact mC_51
  | 52, _ => exact mC_52
  | 53, _ => exact mC_53
  | 54, _ => exact mC_54
  | 55, _ => exact mC_55
  | 56, _ => exact mC_56
  | 57, _ => exact mC_57
  | 58, _ => exact mC_58
  | 59, _ => exact mC_59
  | 60, _ => exact mC_60
  | 61, _ => exact mC_61
  | 62, _ => exact mC_62
  | 63, _ => exact mC_63
  | 64, _ => exact mC_64
  | 65, _ => exact mC_65
  | 66, _ => exact mC_66
  | 67, _ => exact mC_67
  | 68, _ => exact mC_68
  | 69, _ => exact mC_69
  | 70, _ => exact mC_70
  | 71, _ => exact mC_71
  | 72, _ => exact mC_72
  | 73, _ => exact mC_73
  | 74, _ => exact mC_74
  | 75, _ => exact mC_75
  | 76, _ => exact mC_76
  | 77, _ => exact mC_77
  | 78, _ => exact mC_78
  | 79, _ => exact mC_79
  | 80, _ => exact mC_80
  | 81, _ => exact mC_81
  | 82, _ => exact mC_82
  | 83, _ => exact mC_83
  | 84, _ => exact mC_84
  | 85, _ => exact mC_85
  | 86, _ => exact mC_86
  | 87, _ => exact mC_87
  | 88, _ => exact mC_88
  | 89, _ => exact mC_89
  | 90, _ => exact mC_90
  | 91, _ => exact mC_91
  | 92, _ => exact mC_92
  | 93, _ => exact mC_93
  | 94, _ => exact mC_94
  | 95, _ => exact mC_95
  | 96, _ => exact mC_96
  | 97, _ => exact mC_97
  | 98, _ => exact mC_98
  | 99, _ => exact mC_99
  | 100, _ => exact mC_100
  | 101, _ => exact mC_101
  | 102, _ => exact mC_102
  | 103, _ => exact mC_103
  | 104, _ => exact mC_104
  | 105, _ => exact mC_105
  | 106, _ => exact mC_106
  | 107, _ => exact mC_107
  | 108, _ => exact mC_108
  | 109, _ => exact mC_109
  | 110, _ => exact mC_110
  | 111, _ => exact mC_111
  | 112, _ => exact mC_112
  | 113, _ => exact mC_113
  | 114, _ => exact mC_114
  | 115, _ => exact mC_115
  | 116, _ => exact mC_116
  | 117, _ => exact mC_117
  | 118, _ => exact mC_118
  | 119, _ => exact mC_119
  | 120, _ => exact mC_120
  | 121, _ => exact mC_121
  | 122, _ => exact mC_122
  | 123, _ => exact mC_123
  | 124, _ => exact mC_124
  | 125, _ => exact mC_125
  | 126, _ => exact mC_126
  | 127, _ => exact mC_127
  | 128, _ => exact mC_128
  | 129, _ => exact mC_129
  | 130, _ => exact mC_130
  | 131, _ => exact mC_131
  | 132, _ => exact mC_132
  | 133, _ => exact mC_133
  | 134, _ => exact mC_134
  | 135, _ => exact mC_135
  | 136, _ => exact mC_136
  | 137, _ => exact mC_137
  | 138, _ => exact mC_138
  | 139, _ => exact mC_139
  | 140, _ => exact mC_140
  | 141, _ => exact mC_141
  | 142, _ => exact mC_142
  | 143, _ => exact mC_143
  | 144, _ => exact mC_144
  | 145, _ => exact mC_145
  | 146, _ => exact mC_146
  | 147, _ => exact mC_147
  | 148, _ => exact mC_148
  | 149, _ => exact mC_149
  | 150, _ => exact mC_150
  | 151, _ => exact mC_151
  | 152, _ => exact mC_152
  | 153, _ => exact mC_153
  | 154, _ => exact mC_154
  | 155, _ => exact mC_155
  | 156, _ => exact mC_156
  | 157, _ => exact mC_157
  | 158, _ => exact mC_158
  | 159, _ => exact mC_159
  | 160, _ => exact mC_160
  | 161, _ => exact mC_161
  | 162, _ => exact mC_162
  | 163, _ => exact mC_163
  | 164, _ => exact mC_164
  | 165, _ => exact mC_165
  | 166, _ => exact mC_166
  | 167, _ => exact mC_167
  | 168, _ => exact mC_168
  | 169, _ => exact mC_169
  | 170, _ => exact mC_170
  | 171, _ => exact mC_171
  | 172, _ => exact mC_172
  | 173, _ => exact mC_173
  | 174, _ => exact mC_174
  | 175, _ => exact mC_175
  | 176, _ => exact mC_176
  | 177, _ => exact mC_177
  | 178, _ => exact mC_178
  | 179, _ => exact mC_179
  | 180, _ => exact mC_180
  | 181, _ => exact mC_181
  | 182, _ => exact mC_182
  | 183, _ => exact mC_183
  | 184, _ => exact mC_184
  | 185, _ => exact mC_185
  | 186, _ => exact mC_186
  | 187, _ => exact mC_187
  | 188, _ => exact mC_188
  | 189, _ => exact mC_189
  | 190, _ => exact mC_190
  | 191, _ => exact mC_191
  | 192, _ => exact mC_192
  | 193, _ => exact mC_193
  | 194, _ => exact mC_194
  | 195, _ => exact mC_195
  | 196, _ => exact mC_196
  | 197, _ => exact mC_197
  | 198, _ => exact mC_198
  | 199, _ => exact mC_199
  | 200, _ => exact mC_200
  | 201, _ => exact mC_201
  | 202, _ => exact mC_202
  | 203, _ => exact mC_203
  | 204, _ => exact mC_204
  | 205, _ => exact mC_205
  | 206, _ => exact mC_206
  | 207, _ => exact mC_207
  | 208, _ => exact mC_208
  | 209, _ => exact mC_209
  | 210, _ => exact mC_210
  | 211, _ => exact mC_211
  | 212, _ => exact mC_212
  | 213, _ => exact mC_213
  | 214, _ => exact mC_214
  | 215, _ => exact mC_215
  | 216, _ => exact mC_216
  | 217, _ => exact mC_217
  | 218, _ => exact mC_218
  | 219, _ => exact mC_219
  | 220, _ => exact mC_220
  | 221, _ => exact mC_221
  | 222, _ => exact mC_222
  | 223, _ => exact mC_223
  | 224, _ => exact mC_224
  | 225, _ => exact mC_225
  | 226, _ => exact mC_226
  | 227, _ => exact mC_227
  | 228, _ => exact mC_228
  | 229, _ => exact mC_229
  | 230, _ => exact mC_230
  | 231, _ => exact mC_231
  | 232, _ => exact mC_232
  | 233, _ => exact mC_233
  | 234, _ => exact mC_234
  | 235, _ => exact mC_235
  | 236, _ => exact mC_236
  | 237, _ => exact mC_237
  | 238, _ => exact mC_238
  | 239, _ => exact mC_239
  | 240, _ => exact mC_240
  | 241, _ => exact mC_241
  | 242, _ => exact mC_242
  | 243, _ => exact mC_243
  | 244, _ => exact mC_244
  | 245, _ => exact mC_245
  | 246, _ => exact mC_246
  | 247, _ => exact mC_247
  | 248, _ => exact mC_248
  | 249, _ => exact mC_249
  | 250, _ => exact mC_250
  | 251, _ => exact mC_251
  | 252, _ => exact mC_252
  | 253, _ => exact mC_253
  | 254, _ => exact mC_254
  | 255, _ => exact mC_255
  | 256, _ => exact mC_256
  | 257, _ => exact mC_257
  | 258, _ => exact mC_258
  | 259, _ => exact mC_259
  | 260, _ => exact mC_260
  | 261, _ => exact mC_261
  | 262, _ => exact mC_262
  | 263, _ => exact mC_263
  | 264, _ => exact mC_264
  | 265, _ => exact mC_265
  | 266, _ => exact mC_266
  | 267, _ => exact mC_267
  | 268, _ => exact mC_268
  | 269, _ => exact mC_269
  | 270, _ => exact mC_270
  | 271, _ => exact mC_271
  | 272, _ => exact mC_272
  | 273, _ => exact mC_273
  | 274, _ => exact mC_274
  | 275, _ => exact mC_275
  | 276, _ => exact mC_276
  | 277, _ => exact mC_277
  | 278, _ => exact mC_278
  | 279, _ => exact mC_279
  | 280, _ => exact mC_280
  | 281, _ => exact mC_281
  | 282, _ => exact mC_282
  | 283, _ => exact mC_283
  | 284, _ => exact mC_284
  | 285, _ => exact mC_285
  | 286, _ => exact mC_286
  | 287, _ => exact mC_287
  | 288, _ => exact mC_288
  | 289, _ => exact mC_289
  | 290, _ => exact mC_290
  | 291, _ => exact mC_291
  | 292, _ => exact mC_292
  | 293, _ => exact mC_293
  | 294, _ => exact mC_294
  | 295, _ => exact mC_295
  | 296, _ => exact mC_296
  | 297, _ => exact mC_297
  | 298, _ => exact mC_298
  | 299, _ => exact mC_299
  | 300, _ => exact mC_300
  | 301, _ => exact mC_301
  | 302, _ => exact mC_302
  | 303, _ => exact mC_303
  | 304, _ => exact mC_304
  | 305, _ => exact mC_305
  | 306, _ => exact mC_306
  | 307, _ => exact mC_307
  | 308, _ => exact mC_308
  | 309, _ => exact absurd rfl hk
  | 310, _ => exact mC_310
  | 311, _ => exact mC_311
  | n + 312, h => exact absurd h (by omega)
theorem mW_ok : ∀ M, M < 312 → mOkW M = true := by
  intro M hM
  have key : ∀ g, g < 20 → ((List.range 16).map (16 * g + ·)).all (fun M => Nat.ble 312 M || mOkW M) = true := by
    intro g hg
    match g, hg with
    | 0, _ => exact mOkW_0
    | 1, _ => exact mOkW_1
    | 2, _ => exact mOkW_2
    | 3, _ => exact mOkW_3
    | 4, _ => exact mOkW_4
    | 5, _ => exact mOkW_5
    | 6, _ => exact mOkW_6
    | 7, _ => exact mOkW_7
    | 8, _ => exact mOkW_8
    | 9, _ => exact mOkW_9
    | 10, _ => exact mOkW_10
    | 11, _ => exact mOkW_11
    | 12, _ => exact mOkW_12
    | 13, _ => exact mOkW_13
    | 14, _ => exact mOkW_14
    | 15, _ => exact mOkW_15
    | 16, _ => exact mOkW_16
    | 17, _ => exact mOkW_17
    | 18, _ => exact mOkW_18
    | 19, _ => exact mOkW_19
    | n + 20, h => exact absurd h (by omega)
  have h1 := List.all_eq_true.mp (key (M / 16) (by omega)) M (List.mem_map.mpr ⟨M % 16, List.mem_range.mpr (by omega), by omega⟩)
  simp only [Bool.or_eq_true, Nat.ble_eq] at h1
  rcases h1 with h1 | h1
  · omega
  · exact h1
theorem mW_in {M : Nat} (hM : M < 312) (hk : mK M ≠ 4) : ∀ w ∈ mW M, w ∈ wT := by
  have h := mW_ok M hM
  simp only [mOkW, Bool.or_eq_true, Bool.and_eq_true, Nat.beq_eq] at h
  rcases h with h | ⟨h1, h2⟩
  · exact absurd h hk
  · intro w hw
    have h3 : (mPw.getD M []).map (fun i => lw_tbl[i]?) = (mW M).map some := eq_of_beq h1
    have h4 : some w ∈ (mPw.getD M []).map (fun i => lw_tbl[i]?) := by rw [h3]; exact List.mem_map_of_mem hw
    obtain ⟨i, -, hi⟩ := List.mem_map.mp h4
    exact wT_in i hi (List.all_eq_true.mp h2 w hw)
theorem wT_GoodIn : GoodIn wT wT := fun _ h => ⟨h, good_of_word (wT_good h)⟩
theorem mC_GoodIn {M : Nat} (hM : M < 312) (hk : mK M ≠ 4) : GoodIn wT (mC M :: wT) := fun w h => (List.mem_cons.mp h).elim (fun e => by subst e; exact ⟨mC_in M hM hk, good_of_word (wT_good (mC_in M hM hk))⟩) (wT_GoodIn w)
/-- the contract of a method with a table -/
theorem my_ofWH {l : Launch} {y : MethodName} {ws ws' : List Cond} {rm : Room} {Pc : Array Value → State → Prop} {Qc : Array Value → State → Outcome → State → Prop} {mc ms : Nat} {free : Addr → Prop} {cc : ByteArray} {maxL : Nat} {ret : Option FieldType} {hh : List (Nat × Nat × Nat × Nat)}
    (hy : plainName y.cls = true) (hw : ws = Cond.codeWith y cc maxL ret hh :: ws')
    (body : ∀ p e s m args below meth c s₁, BodyLoose p l y (headSpec ws rm) cc maxL ret e s m args below meth c s₁ → c.maxLocals = maxL → Pc args s →
      W p l e (headSpec ws rm).room s m args below meth c s.heap [] 0 0 (MQ below Qc args s mc ms free) (entryFrame m args maxL)) : Met l y ws rm Pc Qc mc ms free := by
  refine MetFree.of_bodyS (code := cc) (maxLocals := maxL) (ret := ret) hy ?_ ?_
  · intro args s m h hn
    obtain ⟨m9, meth, c, hn9, h1, h2, h3, h4, -, h5, h6, -⟩ := Cond.codeWith_spec (atoms_spec (ws := ws) h _ (by rw [hw]; exact List.mem_cons_self))
    cases hn.symm.trans hn9
    exact ⟨meth, c, h1, h2, h3, h4, h5, h6⟩
  · intro p e s m args below meth c s₁ B hml hP _
    have hh0 : s₁.heap = s.heap := by rw [B.state]; rfl
    obtain ⟨t, a1, o, b1, b2, b3⟩ := body p e s m args below meth c s₁ B hml hP s₁ hh0 (Stand.of_body B)
    exact ⟨t, o, a1, b1, b2, ⟨b3.1, b3.2⟩⟩
/-! WHAT A RUN COMES TO, and what is owed there -/
def retI (v : Option Value) : Instr := match v with
  | none => .return_
  | some (.int _) => .ireturn
  | some (.long _) => .lreturn
  | _ => .areturn
def retT (M : Nat) (v : Option Value) : Prop := match v with
  | none => mT M = none
  | some (.int x) => mT M = some .int ∨ (mT M = some .boolean ∧ x &&& 1 = x)
  | some (.long _) => mT M = some .long
  | some (.ref _) => ∃ t, mT M = some t ∧ isRf t = true
  | _ => False
def FinR (l : Launch) (D : va_G) (E : pEnv) (M : Nat) (p : Program) (e : Env) (R : Room) (s : State) (m : MethodId) (args : Array Value) (below : List Frame) (meth : Method) (c : Code) (A : Nat → Prop) (as : Nat → Nat) (S : pS) (n0 sl0 : Nat) (v : Option Value) (S' : pS) (Q : State → Prop) : Prop :=
  ∀ (as' : Nat → Nat) (H' : Heap) (locs' : List Loc) (mls' : Array Slot) (pc' : Nat), (∀ r, okR S.1 r → as' r = as r) → Wd D E A as' S' s H' → va_S A s.heap H' locs' → (∀ w, v = some w → okV S'.1 w) → decode (mB M) pc' = .ok (retI v, 1) → retT M v → W p l e R s m args below meth c H' locs' (S'.1 - n0) (S'.2.1 - sl0) Q (F0 m pc' mls' ((v.map (rv as')).toList))
def FinX (D : va_G) (E : pEnv) (s : State) (args : Array Value) (below : List Frame) (c : Code) (A : Nat → Prop) (as : Nat → Nat) (S : pS) (n0 sl0 k i : Nat) (S' : pS) (Q : State → Prop) : Prop :=
  ∃ (Qc : Array Value → State → Outcome → State → Prop) (XC : String → State → State → Prop), Q = vx_MQ below Qc XC args s (S'.1 - n0) (S'.2.1 - sl0) A ∧ (∀ x ∈ c.exceptionTable.toList, False) ∧ ∀ (as' : Nat → Nat) (S1 : pS) (t : State), S' = pEx S1 → i = S1.1 → S.1 ≤ S1.1 → (∀ r, okR S.1 r → as' r = as r) → Wd D E A as' S1 t t.heap → va_F A s t → XC (eC k) s t
def Fin_ (l : Launch) (D : va_G) (E : pEnv) (M : Nat) (p : Program) (e : Env) (R : Room) (s : State) (m : MethodId) (args : Array Value) (below : List Frame) (meth : Method) (c : Code) (A : Nat → Prop) (as : Nat → Nat) (S : pS) (n0 sl0 : Nat) (out : pO) (S' : pS) (Q : State → Prop) : Prop := match out with
  | .inl v => FinR l D E M p e R s m args below meth c A as S n0 sl0 v S' Q
  | .inr (k, i) => FinX D E s args below c A as S n0 sl0 k i S' Q
theorem Fin_mono {l : Launch} {D : va_G} {E : pEnv} {M : Nat} {p : Program} {e : Env} {R : Room} {s : State} {m : MethodId} {args : Array Value} {below : List Frame} {meth : Method} {c : Code} {A : Nat → Prop} {as as1 : Nat → Nat} {S S1 : pS} {n0 sl0 : Nat} {out : pO} {S' : pS} {Q : State → Prop} (h : Fin_ l D E M p e R s m args below meth c A as S n0 sl0 out S' Q) (hn : S.1 ≤ S1.1) (ha : ∀ r, okR S.1 r → as1 r = as r) : Fin_ l D E M p e R s m args below meth c A as1 S1 n0 sl0 out S' Q := by
  cases out with
  | inl v => exact fun as' H' locs' mls' pc' h1 => h as' H' locs' mls' pc' (fun r hr => (h1 r (okR_up hn hr)).trans (ha r hr))
  | inr x =>
    obtain ⟨k, i⟩ := x
    obtain ⟨Qc, XC, h1, h2, h3⟩ := h
    exact ⟨Qc, XC, h1, h2, fun as' S2 t e1 e2 e3 h4 => h3 as' S2 t e1 e2 (Nat.le_trans hn e3) (fun r hr => (h4 r (okR_up hn hr)).trans (ha r hr))⟩
def SND (l : Launch) (D : va_G) (E : pEnv) (f : Nat) : Prop := ∀ (d M pc : Nat) (ls st : List Value) (S : pS) (out : pO) (S' : pS), run f d M pc ls st S = some (out, S') → S'.1 ≤ 601024 → M < 312 →
  ∀ (p : Program) (e : Env) (R : Room) (s : State) (m : MethodId) (args : Array Value) (below : List Frame) (meth : Method) (c : Code) (H : Heap) (locs : List Loc) (mls : Array Slot) (as : Nat → Nat) (A : Nat → Prop) (n0 sl0 : Nat) (Q : State → Prop),
  Cx M p s m args meth c → EF E A s s.heap → (∀ q, s.heap.size ≤ q → A q) → Wd D E A as S s H → va_S A s.heap H locs → LV (mJ M) as mls (mxL M) ls → okL S.1 ls → okL S.1 st → n0 ≤ S.1 → sl0 ≤ S.2.1 → d + 10 ≤ R.frames → 40 * d + 400 ≤ R.locals → S'.1 - n0 ≤ R.cells → S'.2.1 - sl0 ≤ R.slots →
  Fin_ l D E M p e R s m args below meth c A as S n0 sl0 out S' Q → W p l e R s m args below meth c H locs (S.1 - n0) (S.2.1 - sl0) Q (F0 m pc mls (st.map (rv as)))
/-! A METHOD'S ENTRY -/
theorem entL_map (as : Nat → Nat) : ∀ l : List Value, entL (l.map (rv as)) = (entL l).map (rv as) := by
  intro l
  induction l with
  | nil => rfl
  | cons v l ih => cases v <;> simp [entL, rv, ih]
theorem entL_mem {v : Value} : ∀ {l : List Value}, v ∈ entL l → v ∈ l ∨ v = mk0 := by
  intro l
  induction l with
  | nil => intro h; cases h
  | cons a l ih =>
    intro h
    cases a with
    | long y =>
      simp only [entL, List.mem_cons] at h
      rcases h with h | h | h
      · exact Or.inl (h ▸ List.mem_cons_self)
      · exact Or.inr h
      · exact (ih h).imp (List.mem_cons_of_mem _) id
    | _ =>
      simp only [entL, List.mem_cons] at h
      rcases h with h | h
      · exact Or.inl (h ▸ List.mem_cons_self)
      · exact (ih h).imp (List.mem_cons_of_mem _) id
theorem entL_len : ∀ l : List Value, (∀ v ∈ l, ∀ x, v ≠ .double x) → (lg_sl l).length = (entL l).length := by
  intro l
  induction l with
  | nil => intro _; rfl
  | cons a l ih =>
    intro h
    have h2 := ih (fun v hv => h v (List.mem_cons_of_mem _ hv))
    cases a <;> first | exact absurd rfl (h _ List.mem_cons_self _) | simp [lg_sl, entL, Value.category] at h2 ⊢ <;> omega
theorem okV_nd {n : Nat} {v : Value} (h : okV n v) : ∀ x, v ≠ .double x := by
  intro x e; subst e; exact h
theorem LV_entry {M n : Nat} {as : Nat → Nat} {av : List Value} (hav : okL n av) (harg : argOk M av = true) : ∃ mls : Array Slot, (∀ m : MethodId, entryFrame m (av.map (rv as)).toArray (mxL M) = F0 m 0 mls []) ∧ LV (mJ M) as mls (mxL M) (ent M av) ∧ okL n (ent M av) := by
  simp only [argOk, Bool.and_eq_true, Nat.ble_eq, Bool.or_eq_true] at harg
  obtain ⟨hle, hj⟩ := harg
  have hnd : ∀ v ∈ av, ∀ x, v ≠ .double x := fun v hv => okV_nd (hav v hv)
  have hnd' : ∀ v ∈ av.map (rv as), ∀ x, v ≠ .double x := by
    intro v hv x
    obtain ⟨w, hw, rfl⟩ := List.mem_map.mp hv
    intro e
    cases w <;> first | exact absurd rfl (hnd _ hw _) | cases e
  have hlen : (lg_sl (av.map (rv as))).length ≤ mxL M := by
    rw [entL_len _ hnd', entL_map, List.length_map]; exact hle
  have he := lv_entry (av.map (rv as)) (n := mxL M) hlen
  refine ⟨_, fun m => lg_entry_eq m _ _, ?_, ?_⟩
  · refine ⟨he.1, he.2.1, ?_, ?_, ?_, ?_⟩
    · simp [ent, entN]; omega
    · intro i v hi hm
      have hi2 : (entL av)[i]? = some v := by
        unfold ent entN at hi
        by_cases h : i < (entL av).length
        · rwa [List.getElem?_append_left h] at hi
        · rw [List.getElem?_append_right (by omega)] at hi
          have := List.mem_of_getElem? hi
          rw [List.mem_replicate] at this
          exact absurd this.2 hm
      have hi3 : (entL (av.map (rv as)))[i]? = some (rv as v) := by rw [entL_map, List.getElem?_map, hi2]; rfl
      have h4 := ent_args (av.map (rv as)) 0 i (rv as v) hi3 (by intro e; cases v <;> first | exact hm e | cases e) hnd'
      rw [Nat.zero_add] at h4
      exact he.2.2 _ h4
    · intro v hv x
      rcases List.mem_append.mp hv with h | h
      · rcases entL_mem h with h | h
        · exact hnd v h x
        · rw [h]; intro e; cases e
      · rw [(List.mem_replicate.mp h).2]; intro e; cases e
    · intro hf v hv x
      have hall : ∀ v ∈ av, isJ v = false := by
        rcases hj with hj | hj
        · rw [hf] at hj; cases hj
        · intro v hv
          have := List.all_eq_true.mp hj v hv
          simpa using this
      rcases List.mem_append.mp hv with h | h
      · rcases entL_mem h with h | h
        · intro e; subst e; exact absurd (hall _ h) (by simp [isJ])
        · rw [h]; intro e; cases e
      · rw [(List.mem_replicate.mp h).2]; intro e; cases e
  · intro v hv
    rcases List.mem_append.mp hv with h | h
    · rcases entL_mem h with h | h
      · exact hav v h
      · rw [h]; trivial
    · rw [(List.mem_replicate.mp h).2]; trivial
end
section
theorem EF.same {E : pEnv} {A : Nat → Prop} {s U : State} {H : Heap} (hv : U.vm = s.vm) (h : EF E A s H) : EF E A U H := by
  obtain ⟨⟨h1, h2, h2b⟩, h3, h4, h5, h5b, ⟨h6, h7, h8⟩, ⟨h9, h10, h11⟩, h12, h13, h14⟩ := h
  have ha : s.vm.Alike U.vm := by rw [hv]; exact Vm.Alike.refl _
  refine ⟨⟨h1.moved ha, h2.moved ha, fun y hy => va_Nw.same rfl hv.symm (h2b y hy)⟩, fun i r hr => vk_R.same hv (h3 i r hr), fun i hi => ⟨va_O.moved ha (h4 i hi).1, va_OF.moved ha (h4 i hi).2.1, va_OF.moved ha (h4 i hi).2.2.1, va_T.moved ha (h4 i hi).2.2.2⟩, va_Z.moved ha h5, va_Zq.moved ha h5b, ⟨fun r hr => va_Nw.same rfl hv.symm (h6 r hr), va_Nw.same rfl hv.symm h7, va_AO.moved ha h8⟩, ⟨fun k hk => va_Nw.same rfl hv.symm (h9 k hk), va_Nc.mv ha h10, va_Nc.mv ha h11⟩, va_X.moved ha h12, h13, h14⟩
/-- what a method is given, and what it gives back -/
def PB (D : va_G) (E : pEnv) (tys : List (ClassId × FieldType)) (ws : va_W) (sz : Nat) (U : State) : Prop := U.heap.size = sz ∧ va_K D vwCl tys U ∧ va_P D vwCl ws U.heap ∧ va_D (fun _ => True) ws ∧ EF E (va_A ws sz) U U.heap
def QR (D : va_G) (E : pEnv) (as : Nat → Nat) (S S1 : pS) (v : Option Value) (ws : va_W) (sz : Nat) : Array Value → State → Outcome → State → Prop := fun _ st oc t =>
  (∃ as' : Nat → Nat, (∀ r, okR S.1 r → as' r = as r) ∧ oc = .returned (v.map (rv as')) ∧ Wd D E (va_A ws sz) as' S1 t t.heap ∧ (∀ w, v = some w → okV S1.1 w)) ∧ va_F (va_A ws sz) st t
def XR (D : va_G) (E : pEnv) (as : Nat → Nat) (S S' : pS) (k i : Nat) (ws : va_W) (sz : Nat) : String → State → State → Prop := fun N st t =>
  N = eC k ∧ (∃ (as' : Nat → Nat) (S1 : pS), S' = pEx S1 ∧ i = S1.1 ∧ S.1 ≤ S1.1 ∧ (∀ r, okR S.1 r → as' r = as r) ∧ Wd D E (va_A ws sz) as' S1 t t.heap) ∧ va_F (va_A ws sz) st t
theorem PB_blind {D : va_G} {E : pEnv} {tys : List (ClassId × FieldType)} {ws : va_W} {sz : Nat} {av : List Value} : FrameBlind (va_Pc av (PB D E tys ws sz)) := by
  intro a U g mk h
  obtain ⟨h1, h2, h3, h4, h5, h6⟩ := h
  exact ⟨h1, h2, va_K.moved (u := U) (U := U.calling g mk a) (Vm.Alike.refl U.vm) h3, h4, h5, EF.same (s := U) (U := U.calling g mk a) rfl h6⟩
/-- the room of a method at a depth -/
def rmD (d mc ms : Nat) : Room := { frames := d + 10, cells := mc, slots := ms, locals := 40 * d + 400 }
theorem Wd_t {D : va_G} {E : pEnv} {A : Nat → Prop} {as : Nat → Nat} {S : pS} {s t : State} {H : Heap} (hv : s.vm.Alike t.vm) (ht : t.heap = H) (h : Wd D E A as S s H) : Wd D E A as S t t.heap := by
  obtain ⟨tys, ws, h1, h2, h3, h4, h5⟩ := h
  exact ⟨tys, ws, va_K.moved hv h1, by rw [ht]; exact h2, h3, h4, h5⟩
theorem cx_of {l : Launch} {M : Nat} {rm : Room} (hM : M < 312) (hk : mK M ≠ 4) {p : Program} {e : Env} {s : State} {m : MethodId} {args : Array Value} {below : List Frame} {meth : Method} {c : Code} {s₁ : State} (B : BodyLoose p l (mY M) (headSpec (mC M :: wT) rm) (mB M) (mxL M) (mT M) e s m args below meth c s₁) (hml : c.maxLocals = mxL M) : Cx M p s m args meth c := by
  obtain ⟨h1, h2, h3, h4, h5, h6, h7⟩ := mF hM hk
  have hts := atoms_spec (ws := mC M :: wT) B.pre
  refine ⟨B.exec, B.bytes, B.returns, B.notSynchronized, hml, by rw [h3]; exact findClass_of_methodNamed B.named, fun w hw => hts w (List.mem_cons_of_mem _ hw), fun e => ?_, fun e => ?_⟩
  · rw [(name_of_methodNamed B.named B.method).1]
    exact h4 e
  · have hc : mC M = .codeWith (mY M) (mB M) (mxL M) (mT M) (mH M) := by simp [mC, e]
    exact vx_table (x := mY M) (y := mY M) B (by rw [← hc]; exact hts _ List.mem_cons_self)
set_option maxHeartbeats 1000000 in
theorem met_ret {l : Launch} {D : va_G} {E : pEnv} {f : Nat} (ih : SND l D E f) {M d : Nat} {v : Option Value} {S S1 : pS} {av : List Value} {as : Nat → Nat} {tys : List (ClassId × FieldType)} {ws : va_W} {sz : Nat} (hr : run f d M 0 (ent M av) [] S = some (.inl v, S1)) (hM : M < 312) (hk : mK M ≠ 4) (hn : S1.1 ≤ 601024) (hHR : HR as S tys ws) (hAs : AsE E as S) (hav : okL S.1 av) (harg : argOk M av = true) :
    Met l (mY M) (mC M :: wT) (rmD d (S1.1 - S.1) (S1.2.1 - S.2.1)) (va_Pc (av.map (rv as)) (PB D E tys ws sz)) (QR D E as S S1 v ws sz) (S1.1 - S.1) (S1.2.1 - S.2.1) (va_A ws sz) := by
  have body : ∀ p e s m args below meth c s₁, BodyLoose p l (mY M) (headSpec (mC M :: wT) (rmD d (S1.1 - S.1) (S1.2.1 - S.2.1))) (mB M) (mxL M) (mT M) e s m args below meth c s₁ → c.maxLocals = mxL M → va_Pc (av.map (rv as)) (PB D E tys ws sz) args s →
      W p l e (headSpec (mC M :: wT) (rmD d (S1.1 - S.1) (S1.2.1 - S.2.1))).room s m args below meth c s.heap [] 0 0 (MQ below (QR D E as S S1 v ws sz) args s (S1.1 - S.1) (S1.2.1 - S.2.1) (va_A ws sz)) (entryFrame m args (mxL M)) := by
    intro p e s m args below meth c s₁ B hml hv
    obtain ⟨rfl, hsz, hK, hP, hD0, hE⟩ := hv
    subst hsz
    obtain ⟨mls, he, hL, hls⟩ := LV_entry (M := M) (as := as) hav harg
    have cx := cx_of hM hk B hml
    have hD : va_D (va_A ws s.heap.size) ws := hD0.self
    have h := ih d M 0 (ent M av) [] S (.inl v) S1 hr hn hM p e (headSpec (mC M :: wT) (rmD d (S1.1 - S.1) (S1.2.1 - S.2.1))).room s m (av.map (rv as)).toArray below meth c s.heap [] mls as (va_A ws s.heap.size) S.1 S.2.1 (MQ below (QR D E as S S1 v ws s.heap.size) (av.map (rv as)).toArray s (S1.1 - S.1) (S1.2.1 - S.2.1) (va_A ws s.heap.size)) cx hE (fun q hq => Or.inr hq) ⟨tys, ws, hK, hP, hD, hHR, hAs⟩ va_S.rf hL hls okL_n (Nat.le_refl _) (Nat.le_refl _) (Nat.le_refl _) (Nat.le_refl _) (Nat.le_refl _) (Nat.le_refl _) ?_
    · rw [Nat.sub_self, Nat.sub_self] at h
      rw [he m]
      exact h
    · intro as' H' locs' mls' pc' ha hW hS ho hd ht
      obtain ⟨hx, hb, hrt, hlk, -, -, -, -, -⟩ := cx
      have hq : ∀ t : State, t.heap = H' → s.WarmedH t.vm → QR D E as S S1 v ws s.heap.size (av.map (rv as)).toArray s (.returned (v.map (rv as'))) t := fun t e1 hw => ⟨⟨as', ha, rfl, Wd_t hw.alike e1 hW, ho⟩, hS.F e1⟩
      cases v with
      | none => exact W.vret hx hb (hrt.trans ht) hq hS.2.2 hd hlk
      | some w =>
        cases w with
        | int y =>
          rcases ht with ht | ⟨ht, hy⟩
          · exact W.iret hx hb (hrt.trans ht) hq hS.2.2 hd hlk
          · exact W.zret hx hb (hrt.trans ht) (by show Value.int (y &&& 1) = .int y; rw [hy]) hq hS.2.2 hd hlk
        | long y => exact W.lret hx hb (hrt.trans ht) hq hS.2.2 hd hlk
        | ref y =>
          obtain ⟨t, ht, hrf⟩ := ht
          exact W.aret hx hb (hrt.trans ht) (by cases t <;> first | exact Or.inl ⟨_, rfl⟩ | exact Or.inr ⟨_, rfl⟩ | cases hrf) (Or.inr ⟨_, rfl⟩) hq hS.2.2 hd hlk
        | _ => exact ht.elim
  have hpl := (mF hM hk).1
  by_cases h3 : mK M = 3
  · have hc : mC M = .codeWith (mY M) (mB M) (mxL M) (mT M) (mH M) := by simp [mC, h3]
    exact my_ofWH hpl (by rw [hc]) body
  · have hc : mC M = .code (mY M) (mB M) (mxL M) (mT M) := by
      have : Nat.beq (mK M) 3 = false := by
        cases hq : Nat.beq (mK M) 3 with
        | false => rfl
        | true => exact absurd (Nat.eq_of_beq_eq_true hq) h3
      simp [mC, this]
    exact Met.ofW hpl (by rw [hc]) body
set_option maxHeartbeats 1000000 in
theorem met_thr {l : Launch} {D : va_G} {E : pEnv} {f : Nat} (ih : SND l D E f) {M d k i : Nat} {S S1 : pS} {av : List Value} {as : Nat → Nat} {tys : List (ClassId × FieldType)} {ws : va_W} {sz : Nat} (hr : run f d M 0 (ent M av) [] S = some (.inr (k, i), S1)) (hM : M < 312) (hk : mK M ≠ 4) (hk3 : mK M ≠ 3) (hn : S1.1 ≤ 601024) (hHR : HR as S tys ws) (hAs : AsE E as S) (hav : okL S.1 av) (harg : argOk M av = true) :
    vx_Met l (mY M) (mC M :: wT) (rmD d (S1.1 - S.1) (S1.2.1 - S.2.1)) (va_Pc (av.map (rv as)) (PB D E tys ws sz)) (fun _ _ _ _ => False) (XR D E as S S1 k i ws sz) (S1.1 - S.1) (S1.2.1 - S.2.1) (va_A ws sz) := by
  have hpl := (mF hM hk).1
  have hc : mC M = .code (mY M) (mB M) (mxL M) (mT M) := by
    have : Nat.beq (mK M) 3 = false := by
      cases hq : Nat.beq (mK M) 3 with
      | false => rfl
      | true => exact absurd (Nat.eq_of_beq_eq_true hq) hk3
    simp [mC, this]
  refine vx_ofW (cc := mB M) (maxL := mxL M) (ret := mT M) hpl (by rw [hc]) ?_
  intro p e s m args below meth c s₁ B hml htb hv
  obtain ⟨rfl, hsz, hK, hP, hD0, hE⟩ := hv
  subst hsz
  obtain ⟨mls, he, hL, hls⟩ := LV_entry (M := M) (as := as) hav harg
  have cx := cx_of hM hk B hml
  have hD : va_D (va_A ws s.heap.size) ws := hD0.self
  have h := ih d M 0 (ent M av) [] S (.inr (k, i)) S1 hr hn hM p e (headSpec (mC M :: wT) (rmD d (S1.1 - S.1) (S1.2.1 - S.2.1))).room s m (av.map (rv as)).toArray below meth c s.heap [] mls as (va_A ws s.heap.size) S.1 S.2.1 (vx_MQ below (fun _ _ _ _ => False) (XR D E as S S1 k i ws s.heap.size) (av.map (rv as)).toArray s (S1.1 - S.1) (S1.2.1 - S.2.1) (va_A ws s.heap.size)) cx hE (fun q hq => Or.inr hq) ⟨tys, ws, hK, hP, hD, hHR, hAs⟩ va_S.rf hL hls okL_n (Nat.le_refl _) (Nat.le_refl _) (Nat.le_refl _) (Nat.le_refl _) (Nat.le_refl _) (Nat.le_refl _) ?_
  · rw [Nat.sub_self, Nat.sub_self] at h
    rw [he m]
    exact h
  · exact ⟨_, _, rfl, htb, fun as' S2 t e1 e2 e3 ha hW hF => ⟨rfl, ⟨as', S2, e1, e2, e3, ha, hW⟩, hF⟩⟩
section
variable {p : Program} {l : Launch} {e : Env} {R : Room} {s : State} {m : MethodId} {args : Array Value} {below : List Frame} {meth : Method} {c : Code} {H : Heap} {locs : List Loc} {cells slots : Nat} {Q : State → Prop}
theorem my_call {pc : Nat} {ls : Array Slot} {st0 rest : List Value} {mc ms : Nat} {free : Addr → Prop} {A0 A1 : Nat → Prop} {H0 : Heap} {Qa : State → Outcome → State → Prop} (hr : va_Run p l e R s m args below meth c H locs cells slots mc ms (F0 m pc ls st0) rest Qa free) (hS : va_S A0 H0 H locs) (hA : ∀ q, q < H.size → A1 q → A0 q) (hf : ∀ q, free q → A0 q) (hF : ∀ st v t, Qa st (.returned v) t → va_F A1 st t)
    (kk : ∀ (v : Option Value) (st₀ t : State) (H1 : Heap) (locs1 : List Loc), t.heap = H1 → s.WarmedH t.vm → Qa st₀ (.returned v) t → va_S A0 H0 H1 locs1 → W p l e R s m args below meth c H1 locs1 (cells + mc) (slots + ms) Q (F0 m (pc + 3) ls (v.toList ++ rest))) : W p l e R s m args below meth c H locs cells slots Q (F0 m pc ls st0) := by
  intro T hT X
  obtain ⟨v, st₀, t, T', L, h0, X', hL, e1, e2, hq, st⟩ := hr T hT X
  obtain ⟨hz, hk⟩ := hF st₀ v t hq
  rw [h0] at hz hk
  obtain ⟨t2, a1, b1⟩ := kk v st₀ t T'.heap (locs ++ L) e1.symm (by rw [← e2]; exact X'.warmed) hq
    ⟨Nat.le_trans hS.1 (by rw [e1]; exact hz), fun q h1 h2 => by rw [e1, hk q (Nat.lt_of_lt_of_le h1 hS.1) (fun z => h2 (hA q (Nat.lt_of_lt_of_le h1 hS.1) z))]; exact hS.2.1 q h1 h2, fun q hq => by
      rcases List.mem_append.mp hq with h | h
      · exact hS.2.2 q h
      · exact hf _ (hL q h)⟩ T' rfl X'
  exact ⟨t2, st t2 a1, b1⟩
theorem my_callX {pc : Nat} {ls : Array Slot} {st0 rest : List Value} {mc ms : Nat} {free : Addr → Prop} {A0 A1 : Nat → Prop} {H0 : Heap} {XC : String → State → State → Prop} (hr : vx_Run p l e R s m args below meth c H locs cells slots mc ms (F0 m pc ls st0) rest (fun _ _ _ => False) XC free) (hS : va_S A0 H0 H locs) (hA : ∀ q, q < H.size → A1 q → A0 q) (hf : ∀ q, free q → A0 q) (hF : ∀ N st t, XC N st t → va_F A1 st t)
    (kk : ∀ (N : String) (ce : Cell) (q : Addr) (st₀ t : State) (H1 : Heap) (locs1 : List Loc), t.heap = H1 → s.WarmedH t.vm → XC N st₀ t → va_S A0 H0 H1 locs1 → H1[q]? = some ce → ce.vm = .none → s.vm.findClass N = some ce.cls → vx_W p l e R s m args below meth c H1 locs1 (cells + mc) (slots + ms) Q (F0 m pc ls rest) q) : W p l e R s m args below meth c H locs cells slots Q (F0 m pc ls st0) := by
  intro T hT X
  rcases hr T hT X with ⟨v, st₀, t, T', L, h0, X', hL, e1, e2, hq, st⟩ | ⟨q, st₀, t, T', L, N, ce, h0, X', hL, e1, e2, hq, hce, hcv, hcl, st⟩
  · exact hq.elim
  · obtain ⟨hz, hk⟩ := hF N st₀ t hq
    rw [h0] at hz hk
    obtain ⟨t2, a1, b1⟩ := kk N ce q st₀ t T'.heap (locs ++ L) e1.symm (by rw [← e2]; exact X'.warmed) hq
      ⟨Nat.le_trans hS.1 (by rw [e1]; exact hz), fun q h1 h2 => by rw [e1, hk q (Nat.lt_of_lt_of_le h1 hS.1) (fun z => h2 (hA q (Nat.lt_of_lt_of_le h1 hS.1) z))]; exact hS.2.1 q h1 h2, fun q hq => by
        rcases List.mem_append.mp hq with h | h
        · exact hS.2.2 q h
        · exact hf _ (hL q h)⟩ (by rw [e1]; exact hce) hcv hcl T' rfl X'
    exact ⟨t2, st.trans a1, b1⟩
end
end
section
theorem clS : ∀ {c : Nat} {r : vw_C}, vwCl[c]? = some r → r.1 = oS c := by
  intro c r h
  match c, h with
  | 0, h => cases h; rfl
  | 1, h => cases h; rfl
  | 2, h => cases h; rfl
  | 3, h => cases h; rfl
  | 4, h => cases h; rfl
  | 5, h => cases h; rfl
  | 6, h => cases h; rfl
  | 7, h => cases h; rfl
  | 8, h => cases h; rfl
  | 9, h => cases h; rfl
  | 10, h => cases h; rfl
  | 11, h => cases h; rfl
  | n + 12, h => simp [vwCl] at h
theorem isO_i {S : pS} {q c : Nat} (h : isO S q c = true) : ∃ fs, S.2.2 q = some (cO c fs) := by
  unfold isO at h
  split at h
  · next k fs e =>
    have := Nat.eq_of_beq_eq_true h
    subst this
    exact ⟨fs, e⟩
  · cases h
theorem rcv_i {M : Nat} {as : List Value} {S : pS} (h : rcv M as S = true) : ∃ q as' fs, as = .ref q :: as' ∧ S.2.2 q = some (cO (mO M) fs) := by
  unfold rcv at h
  split at h
  · next q r => obtain ⟨fs, e⟩ := isO_i h; exact ⟨q, r, fs, rfl, e⟩
  · cases h
theorem lnk {M idx a : Nat} (h : lkT MLt (mO M) idx = some (a, 0)) (ha : a < 312) : Cond.methodLink (oS (mO M)) idx (mY a) ∈ wT := by
  have h1 := MLt_ok h
  have h2 : Nat.blt a 9000 = true := by
    have : Nat.ble (a + 1) 9000 = true := Nat.ble_eq_true_of_le (by omega)
    exact this
  have h3 : yOf a = mY a := by simp [yOf, h2]
  simpa [lW4, lW, h3] using h1
theorem cat_map (as : Nat → Nat) (r : List Value) : ((r.map (rv as)).map fun v => v.category).sum = (r.map fun v => v.category).sum := by
  rw [List.map_map]
  congr 1
  exact List.map_congr_left fun v _ => rv_cat as v
theorem stW_i {as : Nat → Nat} {r : List Value} (h : stW r = true) : ((r.map (rv as)).map fun v => v.category).sum ≤ 8 := by
  rw [cat_map]
  exact Nat.le_of_ble_eq_true h
theorem st_split (as : Nat → Nat) (st : List Value) (b : Nat) : st.map (rv as) = (((st.take b).reverse).map (rv as)).reverse ++ (st.drop b).map (rv as) := by
  rw [List.map_reverse, List.reverse_reverse, ← List.map_append, List.take_append_drop]
theorem PB_at {D : va_G} {E : pEnv} {A : Nat → Prop} {tys : List (ClassId × FieldType)} {ws : va_W} {s : State} {H : Heap} {locs : List Loc} {av : List Value} (hE : EF E A s s.heap) (hA : ∀ q, s.heap.size ≤ q → A q) (hK : va_K D vwCl tys s) (hP : va_P D vwCl ws H) (hD : va_D A ws) (hS : va_S A s.heap H locs) : ∀ U : State, U.heap = H → s.WarmedH U.vm → va_Pc av (PB D E tys ws H.size) av.toArray U := by
  intro U hU hW
  refine ⟨rfl, by rw [hU], va_K.moved hW.alike hK, by rw [hU]; exact hP, hD.weaken (fun _ _ _ _ => trivial), ?_⟩
  have h1 : EF E A s H := EF.kept hS.1 hS.2.1 hE
  have h2 := EF.warm hW h1
  rw [hU]
  exact h2.narrow (fun q hq => by
    rcases hq with ⟨k, e, h⟩ | h
    · exact hD.2 k _ h
    · exact hA q (Nat.le_trans hS.1 h))
theorem rmD_f (d mc ms : Nat) : (rmD d mc ms).frames = d + 10 := rfl
theorem rmD_l (d mc ms : Nat) : (rmD d mc ms).locals = 40 * d + 400 := rfl
def ivk (kind idx : Nat) : Instr := match kind with
  | 0 => .invokevirtual idx
  | 1 => .invokestatic idx
  | _ => .invokespecial idx
set_option maxRecDepth 20000 in
set_option maxHeartbeats 2000000 in
/-- a call of a method that returns -/
theorem run_ret {p : Program} {l : Launch} {e : Env} {R : Room} {s : State} {m : MethodId} {args : Array Value} {below : List Frame} {meth : Method} {c : Code} {H : Heap} {locs : List Loc} {cells slots : Nat} {D : va_G} {E : pEnv} {A : Nat → Prop} {as : Nat → Nat} {S : pS} {tys : List (ClassId × FieldType)} {ws : va_W} {mls : Array Slot} {ls st : List Value} {M kind idx a b pc d mc ms : Nat} {x : Int} {Qc : Array Value → State → Outcome → State → Prop} {free : Addr → Prop}
    (cx : Cx M p s m args meth c) (hE : EF E A s s.heap) (hA : ∀ q, s.heap.size ≤ q → A q) (hK : va_K D vwCl tys s) (hP : va_P D vwCl ws H) (hD : va_D A ws) (hS : va_S A s.heap H locs) (hHR : HR as S tys ws) (hL : LV (mJ M) as mls (mxL M) ls)
    (hC : okC M kind x a b idx = true) (hkind : kind ≤ 2) (hd : decode (mB M) pc = .ok (ivk kind idx, 3)) (hb : b ≤ st.length) (hw : stW (st.drop b) = true) (hrc : kind ≠ 1 → rcv a (st.take b).reverse S = true) (hfr : d + 1 + 10 ≤ R.frames) (hlo : 40 * (d + 1) + 400 ≤ R.locals) (hRc : cells + mc ≤ R.cells ∧ slots + ms ≤ R.slots)
    (hM : Met l (mY a) (mC a :: wT) (rmD d mc ms) (va_Pc (((st.take b).reverse).map (rv as)) (PB D E tys ws H.size)) Qc mc ms free) :
    va_Run p l e R s m args below meth c H locs cells slots mc ms (F0 m pc mls (st.map (rv as))) ((st.drop b).map (rv as)) (Qc (((st.take b).reverse).map (rv as)).toArray) free := by
  obtain ⟨hx, hbb, hr, hlk, hml, hown, hts, hin, htb⟩ := cx
  have S0 : CallFix p m c (mB M) (mxL M) s args wT (oS (mO M)) := ⟨hx, hbb, hml, hown, hts⟩
  have hav : ((st.take b).reverse).length = b := by rw [List.length_reverse, List.length_take]; omega
  simp only [okC, Bool.and_eq_true, Nat.blt_eq] at hC
  obtain ⟨⟨ha, hrt⟩, hC⟩ := hC
  have hPC := PB_at (av := ((st.take b).reverse).map (rv as)) hE hA hK hP hD hS
  have hroom : mxL a ≤ 12 → (rmD d mc ms).frames + 1 ≤ R.frames ∧ 8 + (mxL a + 11) + (rmD d mc ms).locals ≤ R.locals := fun h => ⟨by rw [rmD_f]; omega, by rw [rmD_l]; omega⟩
  have hwm : 2 * (F0 m pc mls (st.map (rv as))).monitorRoom + (((st.drop b).map (rv as)).map fun v => v.category).sum ≤ 8 := by
    show 2 * 0 + _ ≤ 8
    have := stW_i (as := as) hw
    omega
  have hcode : mK a ≠ 3 → mC a = .code (mY a) (mB a) (mxL a) (mT a) := by
    intro h3
    have : Nat.beq (mK a) 3 = false := by
      cases hq : Nat.beq (mK a) 3 with
      | false => rfl
      | true => exact absurd (Nat.eq_of_beq_eq_true hq) h3
    simp [mC, this]
  match kind, hkind with
  | 0, _ =>
    simp only [Bool.and_eq_true, Nat.beq_eq, decide_eq_true_eq, Nat.ble_eq, beq_iff_eq] at hC
    obtain ⟨⟨⟨hk, hn⟩, hb1⟩, hl⟩ := hC
    have hk4 : mK a ≠ 4 := by rw [hk]; decide
    obtain ⟨f1, f2, f3, f4, f5, f6, f7⟩ := mF ha hk4
    have hmw := mW_in ha hk4
    obtain ⟨q, av', fs, hav2, hq⟩ := rcv_i (hrc (by decide))
    obtain ⟨k1, e1, hk1, ⟨he1, -⟩, -⟩ := HR_at hHR hq (by rintro ⟨_, _, h⟩; cases h)
    subst he1
    have hcl : ∃ r, vwCl[mO a]? = some r := by
      obtain ⟨r, hr, -⟩ := hP k1 _ hk1
      exact ⟨r, hr⟩
    obtain ⟨r, hr⟩ := hcl
    have hrec := va_recv hK hP hr hk1
    rw [clS hr, f3] at hrec
    have hG : GoodIn wT (wsV (oS (mO M)) idx (mY a).cls (mY a) (mC a :: wT)) := by
      intro w hw2
      unfold wsV at hw2
      rcases List.mem_append.mp hw2 with h | h
      · have hin2 : w ∈ wT := by
          simp only [List.mem_cons, List.not_mem_nil, or_false] at h
          rcases h with rfl | rfl | rfl | rfl
          · exact lnk hl ha
          · exact hmw _ (by simp [mW, hk])
          · exact hmw _ (by simp [mW, hk])
          · exact hmw _ (by simp [mW, hk])
        exact ⟨hin2, good_of_word (wT_good hin2)⟩
      · exact mC_GoodIn ha hk4 w h
    have cw := cwV (R := R) (s := s) (args := args) (rm := rmD d mc ms) (b - 1) hts hG (by rw [hcode (by rw [hk]; decide)]) rfl rfl ⟨rfl, f2.1, f2.2, hn⟩ (hroom f6)
    rw [hav2] at hM hPC ⊢
    rw [List.map_cons] at hM hPC ⊢
    have hav3 : av'.length = b - 1 := by rw [hav2] at hav; simp at hav; omega
    refine va_runV S0 hM cw ⟨PB_blind, hrec, hPC⟩ rfl (by rw [List.length_map]; exact hav3) hL.1 ?_ hwm hd hRc
    show st.map (rv as) = _
    rw [st_split as st b, hav2, List.map_cons, List.reverse_cons, List.append_assoc]
    rfl
  | 1, _ =>
    simp only [Bool.and_eq_true, Bool.or_eq_true, Nat.beq_eq, decide_eq_true_eq, Nat.ble_eq, beq_iff_eq] at hC
    obtain ⟨⟨hk, hn⟩, hl⟩ := hC
    have hk4 : mK a ≠ 4 := by rcases hk with hk | hk <;> rw [hk] <;> decide
    obtain ⟨f1, f2, f3, f4, f5, f6, f7⟩ := mF ha hk4
    have hmw := mW_in ha hk4
    have hini : Cond.initialized (mY a).cls ∈ wT := hmw _ (by simp [mW])
    have hst : Cond.static (mY a) ∈ wT := hmw _ (by rcases hk with hk | hk <;> simp [mW, hk])
    have hstk : (F0 m pc mls (st.map (rv as))).stack = (((st.take b).reverse).map (rv as)).reverse ++ (st.drop b).map (rv as) := st_split as st b
    have hlen : (((st.take b).reverse).map (rv as)).length = b := by rw [List.length_map]; exact hav
    by_cases h3 : mK a = 3
    · rcases hl with hl | ⟨h1, -⟩
      · have hG : GoodIn wT (va_wsS (oS (mO M)) idx (mY a) (mC a :: wT)) := by
          intro w hw2
          unfold va_wsS at hw2
          rcases List.mem_append.mp hw2 with h | h
          · have hin2 : w ∈ wT := by
              simp only [List.mem_cons, List.not_mem_nil, or_false] at h
              rcases h with rfl | rfl | rfl
              · exact lnk hl ha
              · exact hst
              · exact hini
            exact ⟨hin2, good_of_word (wT_good hin2)⟩
          · exact mC_GoodIn ha hk4 w h
        have hcw : mC a = .codeWith (mY a) (mB a) (mxL a) (mT a) (mH a) := by simp [mC, h3]
        have cw := vx_cwSW (R := R) (s := s) (args := args) (rm := rmD d mc ms) b hts hG (by rw [hcw]) rfl rfl ⟨f2.1, f2.2, hn⟩ (hroom f6)
        exact vx_runSW S0 hM cw ⟨PB_blind, hPC⟩ rfl hlen hL.1 hstk hwm hd hRc
      · omega
    · rcases hl with hl | ⟨-, hl⟩
      · have cb := callB_of (R := R) (s := s) (args := args) (rm := rmD d mc ms) b hts (mC_GoodIn ha hk4) (by rw [hcode h3]) rfl rfl (hts _ hini) (hts _ (lnk hl ha)) ⟨f2.1, f2.2, hn⟩ (hroom f6)
        exact va_runS S0 hM ⟨cb, hts _ hst⟩ ⟨PB_blind, hPC⟩ rfl hlen hL.1 hstk hwm hd hRc
      · have hnw := hE.2.2.2.2.2.1.1 _ (List.contains_iff_mem.mp hl)
        have hyo : yOf a = mY a := by
          have : Nat.blt a 9000 = true := Nat.ble_eq_true_of_le (by omega)
          simp [yOf, this]
        have hnw2 : va_Nw (.methodLinkNest (oS (mO M)) idx (mY a) "StillYear") s := by simpa [nW, hyo] using hnw
        have cn := va_cnB (R := R) (s := s) (args := args) (rm := rmD d mc ms) b hts (mC_GoodIn ha hk4) (by rw [hcode h3]) rfl rfl hnw2 (hts _ hini) ⟨f2.1, f2.2, hn⟩ (hroom f6)
        exact va_runSN S0 hM ⟨cn, hts _ hst, trivial⟩ ⟨PB_blind, hPC⟩ rfl hlen hL.1 hstk hwm hd hRc
  | 2, _ =>
    simp only [Bool.and_eq_true, Bool.or_eq_true, Nat.beq_eq, decide_eq_true_eq, Nat.ble_eq, beq_iff_eq] at hC
    obtain ⟨⟨⟨hk, hn⟩, hb1⟩, hl⟩ := hC
    have hk4 : mK a ≠ 4 := by rw [hk]; decide
    obtain ⟨f1, f2, f3, f4, f5, f6, f7⟩ := mF ha hk4
    have hmw := mW_in ha hk4
    have hini : Cond.initialized (mY a).cls ∈ wT := hmw _ (by simp [mW])
    have hins : Cond.instanceMethod (mY a) ∈ wT := hmw _ (by simp [mW, hk])
    obtain ⟨q, av', fs, hav2, hq⟩ := rcv_i (hrc (by decide))
    have hav3 : av'.length = b - 1 := by rw [hav2] at hav; simp at hav; omega
    have hstk : (F0 m pc mls (st.map (rv as))).stack = (av'.map (rv as)).reverse ++ .ref (as q) :: (st.drop b).map (rv as) := by
      show st.map (rv as) = _
      rw [st_split as st b, hav2, List.map_cons, List.reverse_cons, List.append_assoc]
      rfl
    have hc0 : mC a = .code (mY a) (mB a) (mxL a) none := by rw [hcode (by rw [hk]; decide), f7 hk]
    rw [hav2] at hM hPC ⊢
    rw [List.map_cons] at hM hPC ⊢
    rcases hl with hl | hl
    · have cb := callB_of (R := R) (s := s) (args := args) (rm := rmD d mc ms) (b - 1) hts (mC_GoodIn ha hk4) (by rw [hc0]) rfl rfl (hts _ hini) (hts _ (lnk hl ha)) ⟨f2.1, f2.2, hn⟩ (hroom f6)
      exact va_runI S0 hM ⟨cb, f4 hk, hts _ hins⟩ ⟨PB_blind, hPC⟩ rfl (by rw [List.length_map]; exact hav3) hL.1 hstk hwm hd hRc
    · have hnw := hE.2.2.2.2.2.1.1 _ (List.contains_iff_mem.mp hl)
      have hyo : yOf a = mY a := by
        have : Nat.blt a 9000 = true := Nat.ble_eq_true_of_le (by omega)
        simp [yOf, this]
      have hnw2 : va_Nw (.methodLinkNest (oS (mO M)) idx (mY a) "StillYear") s := by simpa [nW, hyo] using hnw
      have cn := va_cnB (R := R) (s := s) (args := args) (rm := rmD d mc ms) (b - 1) hts (mC_GoodIn ha hk4) (by rw [hc0]) rfl rfl hnw2 (hts _ hini) ⟨f2.1, f2.2, hn⟩ (hroom f6)
      exact va_runIN S0 hM ⟨cn, f4 hk, hts _ hins⟩ ⟨PB_blind, hPC⟩ rfl (by rw [List.length_map]; exact hav3) hL.1 hstk hwm hd hRc
set_option maxRecDepth 20000 in
set_option maxHeartbeats 2000000 in
/-- a call of a method that throws -/
theorem run_thr {p : Program} {l : Launch} {e : Env} {R : Room} {s : State} {m : MethodId} {args : Array Value} {below : List Frame} {meth : Method} {c : Code} {H : Heap} {locs : List Loc} {cells slots : Nat} {D : va_G} {E : pEnv} {A : Nat → Prop} {as : Nat → Nat} {S : pS} {tys : List (ClassId × FieldType)} {ws : va_W} {mls : Array Slot} {ls st : List Value} {M idx a b pc d mc ms : Nat} {x : Int} {Qc : Array Value → State → Outcome → State → Prop} {XC : String → State → State → Prop} {free : Addr → Prop}
    (cx : Cx M p s m args meth c) (hE : EF E A s s.heap) (hA : ∀ q, s.heap.size ≤ q → A q) (hK : va_K D vwCl tys s) (hP : va_P D vwCl ws H) (hD : va_D A ws) (hS : va_S A s.heap H locs) (hHR : HR as S tys ws) (hL : LV (mJ M) as mls (mxL M) ls)
    (hC : okC M 0 x a b idx = true) (hd : decode (mB M) pc = .ok (.invokevirtual idx, 3)) (hb : b ≤ st.length) (hw : stW (st.drop b) = true) (hrc : rcv a (st.take b).reverse S = true) (hfr : d + 1 + 10 ≤ R.frames) (hlo : 40 * (d + 1) + 400 ≤ R.locals) (hRc : cells + mc ≤ R.cells ∧ slots + ms ≤ R.slots)
    (hM : vx_Met l (mY a) (mC a :: wT) (rmD d mc ms) (va_Pc (((st.take b).reverse).map (rv as)) (PB D E tys ws H.size)) Qc XC mc ms free) :
    vx_Run p l e R s m args below meth c H locs cells slots mc ms (F0 m pc mls (st.map (rv as))) ((st.drop b).map (rv as)) (Qc (((st.take b).reverse).map (rv as)).toArray) XC free := by
  obtain ⟨hx, hbb, hr, hlk, hml, hown, hts, hin, htb⟩ := cx
  have S0 : CallFix p m c (mB M) (mxL M) s args wT (oS (mO M)) := ⟨hx, hbb, hml, hown, hts⟩
  have hav : ((st.take b).reverse).length = b := by rw [List.length_reverse, List.length_take]; omega
  simp only [okC, Bool.and_eq_true, Nat.blt_eq, Nat.beq_eq, decide_eq_true_eq, Nat.ble_eq, beq_iff_eq] at hC
  obtain ⟨⟨ha, hrt⟩, ⟨⟨hk, hn⟩, hb1⟩, hl⟩ := hC
  have hPC := PB_at (av := ((st.take b).reverse).map (rv as)) hE hA hK hP hD hS
  have hroom : mxL a ≤ 12 → (rmD d mc ms).frames + 1 ≤ R.frames ∧ 8 + (mxL a + 11) + (rmD d mc ms).locals ≤ R.locals := fun h => ⟨by rw [rmD_f]; omega, by rw [rmD_l]; omega⟩
  have hwm : 2 * (F0 m pc mls (st.map (rv as))).monitorRoom + (((st.drop b).map (rv as)).map fun v => v.category).sum ≤ 8 := by
    show 2 * 0 + _ ≤ 8
    have := stW_i (as := as) hw
    omega
  have hk4 : mK a ≠ 4 := by rw [hk]; decide
  have hcode : mC a = .code (mY a) (mB a) (mxL a) (mT a) := by
    have : Nat.beq (mK a) 3 = false := by rw [hk]; rfl
    simp [mC, this]
  obtain ⟨f1, f2, f3, f4, f5, f6, f7⟩ := mF ha hk4
  have hmw := mW_in ha hk4
  obtain ⟨q, av', fs, hav2, hq⟩ := rcv_i hrc
  obtain ⟨k1, e1, hk1, ⟨he1, -⟩, -⟩ := HR_at hHR hq (by rintro ⟨_, _, h⟩; cases h)
  subst he1
  have hcl : ∃ r, vwCl[mO a]? = some r := by
    obtain ⟨r, hr, -⟩ := hP k1 _ hk1
    exact ⟨r, hr⟩
  obtain ⟨r, hr⟩ := hcl
  have hrec := va_recv hK hP hr hk1
  rw [clS hr, f3] at hrec
  have hG : GoodIn wT (wsV (oS (mO M)) idx (mY a).cls (mY a) (mC a :: wT)) := by
    intro w hw2
    unfold wsV at hw2
    rcases List.mem_append.mp hw2 with h | h
    · have hin2 : w ∈ wT := by
        simp only [List.mem_cons, List.not_mem_nil, or_false] at h
        rcases h with rfl | rfl | rfl | rfl
        · exact lnk hl ha
        · exact hmw _ (by simp [mW, hk])
        · exact hmw _ (by simp [mW, hk])
        · exact hmw _ (by simp [mW, hk])
      exact ⟨hin2, good_of_word (wT_good hin2)⟩
    · exact mC_GoodIn ha hk4 w h
  have cw := cwV (R := R) (s := s) (args := args) (rm := rmD d mc ms) (b - 1) hts hG (by rw [hcode]) rfl rfl ⟨rfl, f2.1, f2.2, hn⟩ (hroom f6)
  rw [hav2] at hM hPC ⊢
  rw [List.map_cons] at hM hPC ⊢
  have hav3 : av'.length = b - 1 := by rw [hav2] at hav; simp at hav; omega
  refine vx_runV S0 hM cw ⟨PB_blind, hrec, hPC⟩ rfl (by rw [List.length_map]; exact hav3) hL.1 ?_ hwm hd hRc
  show st.map (rv as) = _
  rw [st_split as st b, hav2, List.map_cons, List.reverse_cons, List.append_assoc]
  rfl
end
section
theorem pCall_i {C : Nat → List Value → pS → pR} {K : Nat → List Value → List Value → pS → pR} {M pc len a b : Nat} {t : Int} {ls st : List Value} {s : pS} {z : pO × pS} {X : Nat → Nat → pS → pR} (h : pCall C K X M pc len t a b ls st s = some z) : b ≤ st.length ∧ stW (st.drop b) = true ∧ argOk a (st.take b).reverse = true ∧ ((∃ (v : Option Value) (S1 : pS), C a (st.take b).reverse s = some (.inl v, S1) ∧ K (pc + len) ls (v.toList ++ st.drop b) S1 = some z) ∨ ∃ (k i : Nat) (S1 : pS), C a (st.take b).reverse s = some (.inr (k, i), S1) ∧ X k i S1 = some z) := by
  unfold pCall at h
  obtain ⟨hg, h⟩ := bf_i h
  simp only [Bool.and_eq_true, Nat.ble_eq] at hg
  refine ⟨hg.1, hg.2.1, hg.2.2, ?_⟩
  split at h
  · unfold kC0 at h
    split at h
    · next S1 e => exact Or.inl ⟨none, S1, e, h⟩
    · next k i S1 e => exact Or.inr ⟨k, i, S1, e, h⟩
    · cases h
  · unfold kC1 at h
    split at h
    · next x S1 e => exact Or.inl ⟨some (.int x), S1, e, h⟩
    · next k i S1 e => exact Or.inr ⟨k, i, S1, e, h⟩
    · cases h
  · unfold kC2 at h
    split at h
    · next x S1 e => exact Or.inl ⟨some (.long x), S1, e, h⟩
    · next k i S1 e => exact Or.inr ⟨k, i, S1, e, h⟩
    · cases h
  · unfold kC3 at h
    split at h
    · next x S1 e => exact Or.inl ⟨some (.ref x), S1, e, h⟩
    · next k i S1 e => exact Or.inr ⟨k, i, S1, e, h⟩
    · cases h
/-- a thrown exception's place in the pure heap -/
theorem HR_ex {as : Nat → Nat} {S : pS} {tys : List (ClassId × FieldType)} {ws : va_W} {q : Nat} (h : HR as S tys ws) (hn : S.1 < pSB) : HR (asN as S.1 q) (pEx S) tys ws := by
  have old := asN_old (as := as) (q := q) hn
  have key : ∀ i, nsc (S.2.2 i) → asN as S.1 q i = as i := by
    intro i hi
    obtain ⟨x, hx, hx'⟩ := hi
    rcases h.1 i x hx with h1 | ⟨hin, -⟩
    · exact absurd h1 hx'
    · exact old i (Or.inl hin)
  refine ⟨fun i x hi => ?_, fun i j h3 h4 h5 => ?_⟩
  · rcases h.1 i x hi with h1 | ⟨hin, ex, hm, hx⟩
    · exact Or.inl h1
    · refine Or.inr ⟨Nat.lt_succ_of_lt hin, ex, ?_, rlE_up old (Nat.le_succ _) (fun _ h => h) hx⟩
      rw [old i (Or.inl hin)]
      exact hm
  · rw [key i h3, key j h4] at h5
    exact h.2 i j h3 h4 h5
theorem AsE_ex {E : pEnv} {as : Nat → Nat} {S : pS} {q : Nat} (h : AsE E as S) (hn : S.1 < pSB) : AsE E (asN as S.1 q) (pEx S) := by
  have old := asN_old (as := as) (q := q) hn
  exact ⟨fun i hi => by rw [old _ (Or.inr (Nat.le_add_right _ _))]; exact h.1 i hi, by rw [old _ (Or.inr (Nat.le_add_right _ _))]; exact h.2.1, h.2.2⟩
theorem Wd_mono {D : va_G} {E : pEnv} {A B : Nat → Prop} {as : Nat → Nat} {S : pS} {s t : State} {H : Heap} (hv : t.vm.Alike s.vm) (ht : t.heap = H) (hAB : ∀ q, A q → B q) (h : Wd D E A as S t t.heap) : Wd D E B as S s H := by
  obtain ⟨tys, ws, h1, h2, h3, h4, h5⟩ := h
  exact ⟨tys, ws, va_K.moved hv h1, by rw [← ht]; exact h2, h3.weaken (fun k q hk hq => hAB _ hq), h4, h5⟩
/-- the law's handlers: the exceptions by their numbers -/
def okH (M : Nat) : Bool := !Nat.beq (mK M) 3 || (Nat.beq (hnd M).length (mH M).length && ((hnd M).zip (mH M)).all fun q => Nat.beq q.1.1 q.2.1 && Nat.beq q.1.2.1 q.2.2.1 && Nat.beq q.1.2.2.1 q.2.2.2.1 && ((Nat.beq q.1.2.2.2 0 && Nat.beq q.2.2.2.2 13) || (Nat.beq q.1.2.2.2 1 && Nat.beq q.2.2.2.2 31)) && decide (oS (mO M) = "StillYearLaw"))
set_option maxRecDepth 100000 in
theorem okH_all : (List.range 312).all okH = true := by decide +kernel
def mHb (M : Nat) : Bool := (!Nat.beq (mK M) 3 || !(mH M).isEmpty) && (!Nat.beq (mK M) 4 || (hnd M).isEmpty)
set_option maxRecDepth 100000 in
theorem mHb_all : (List.range 312).all mHb = true := by decide +kernel
theorem mH_ne (M : Nat) (hM : M < 312) (h3 : mK M = 3) : mH M ≠ [] := by
  have h := List.all_eq_true.mp mHb_all M (List.mem_range.mpr hM)
  intro e
  simp [mHb, h3, e] at h
theorem hnd_law (M : Nat) (hM : M < 312) (h4 : mK M = 4) : hnd M = [] := by
  have h := List.all_eq_true.mp mHb_all M (List.mem_range.mpr hM)
  simp [mHb, h4] at h
  exact h.2
theorem clk0 : Cond.classLink "StillYearLaw" 13 (eC 0) ∈ wT := wT_in (99 + 453) (by decide +kernel) rfl
theorem clk1 : Cond.classLink "StillYearLaw" 31 (eC 1) ∈ wT := wT_in (99 + 923) (by decide +kernel) rfl
/-- caught by one of the rows -/
theorem hX_i {D : pR} {F : Nat → pR} {z : pO × pS} {pc k : Nat} : ∀ (hn hm : List (Nat × Nat × Nat × Nat)), hn.length = hm.length → (hn.zip hm).all (fun q => Nat.beq q.1.1 q.2.1 && Nat.beq q.1.2.1 q.2.2.1 && Nat.beq q.1.2.2.1 q.2.2.2.1 && ((Nat.beq q.1.2.2.2 0 && Nat.beq q.2.2.2.2 13) || (Nat.beq q.1.2.2.2 1 && Nat.beq q.2.2.2.2 31))) = true → D = none → hX hn pc k F D = some z → ∃ (pre suf : List (Nat × Nat × Nat × Nat)) (x : Nat × Nat × Nat × Nat), hm = pre ++ x :: suf ∧ (∀ y ∈ pre, (¬ (y.1 ≤ pc ∧ pc < y.2.1)) ∨ (y.2.2.2 = 13 ∧ k ≠ 0) ∨ (y.2.2.2 = 31 ∧ k ≠ 1)) ∧ (x.1 ≤ pc ∧ pc < x.2.1) ∧ ((x.2.2.2 = 13 ∧ k = 0) ∨ (x.2.2.2 = 31 ∧ k = 1)) ∧ F x.2.2.1 = some z := by
  intro hn
  induction hn with
  | nil => intro hm _ _ hD h; unfold hX at h; rw [hD] at h; cases h
  | cons a hn ih =>
    intro hm hl hz hD h
    cases hm with
    | nil => cases hl
    | cons b hm =>
      obtain ⟨a1, a2, a3, a4⟩ := a
      obtain ⟨b1, b2, b3, b4⟩ := b
      simp only [List.zip_cons_cons, List.all_cons, Bool.and_eq_true, Bool.or_eq_true, Nat.beq_eq] at hz
      obtain ⟨⟨⟨⟨e1, e2⟩, e3⟩, e4⟩, hz⟩ := hz
      subst e1; subst e2; subst e3
      have hz' : (hn.zip hm).all (fun q => Nat.beq q.1.1 q.2.1 && Nat.beq q.1.2.1 q.2.2.1 && Nat.beq q.1.2.2.1 q.2.2.2.1 && ((Nat.beq q.1.2.2.2 0 && Nat.beq q.2.2.2.2 13) || (Nat.beq q.1.2.2.2 1 && Nat.beq q.2.2.2.2 31))) = true := hz
      have next : ((¬ (a1 ≤ pc ∧ pc < a2)) ∨ (b4 = 13 ∧ k ≠ 0) ∨ (b4 = 31 ∧ k ≠ 1)) → hX hn pc k F D = some z → ∃ (pre suf : List (Nat × Nat × Nat × Nat)) (x : Nat × Nat × Nat × Nat), (a1, a2, a3, b4) :: hm = pre ++ x :: suf ∧ (∀ y ∈ pre, (¬ (y.1 ≤ pc ∧ pc < y.2.1)) ∨ (y.2.2.2 = 13 ∧ k ≠ 0) ∨ (y.2.2.2 = 31 ∧ k ≠ 1)) ∧ (x.1 ≤ pc ∧ pc < x.2.1) ∧ ((x.2.2.2 = 13 ∧ k = 0) ∨ (x.2.2.2 = 31 ∧ k = 1)) ∧ F x.2.2.1 = some z := by
        intro hp h
        obtain ⟨pre, suf, x, g1, g2, g3⟩ := ih hm (by simpa using hl) hz' hD h
        refine ⟨(a1, a2, a3, b4) :: pre, suf, x, by rw [g1]; rfl, fun y hy => ?_, g3⟩
        rcases List.mem_cons.mp hy with rfl | hy
        · exact hp
        · exact g2 y hy
      unfold hX at h
      cases hc : (Nat.ble a1 pc && Nat.blt pc a2) with
      | false =>
        rw [hc] at h
        refine next (Or.inl ?_) h
        rintro ⟨p1, p2⟩
        have q1 : Nat.ble a1 pc = true := Nat.ble_eq_true_of_le p1
        have q2 : Nat.blt pc a2 = true := Nat.ble_eq_true_of_le p2
        rw [q1, q2] at hc
        cases hc
      | true =>
        rw [hc] at h
        dsimp only [cond_true] at h
        simp only [Bool.and_eq_true, Nat.ble_eq, Nat.blt_eq] at hc
        by_cases hk : k = a4
        · rw [if_pos hk] at h
          refine ⟨[], hm, (a1, a2, a3, b4), rfl, (fun y hy => by cases hy), hc, ?_, h⟩
          rcases e4 with ⟨e4, e5⟩ | ⟨e4, e5⟩
          · exact Or.inl ⟨e5, hk.trans e4⟩
          · exact Or.inr ⟨e5, hk.trans e4⟩
        · rw [if_neg hk] at h
          refine next (Or.inr ?_) h
          rcases e4 with ⟨e4, e5⟩ | ⟨e4, e5⟩
          · exact Or.inl ⟨e5, fun e => hk (e.trans e4.symm)⟩
          · exact Or.inr ⟨e5, fun e => hk (e.trans e4.symm)⟩
set_option maxHeartbeats 4000000 in
set_option maxRecDepth 10000 in
/-- a call -/
theorem stepC {l : Launch} {D : va_G} {E : pEnv} {f : Nat} (ih : SND l D E f) {M d : Nat} {p : Program} {e : Env} {R : Room} {s : State} {m : MethodId} {args : Array Value} {below : List Frame} {meth : Method} {c : Code} {A : Nat → Prop} {n0 sl0 : Nat} {Q : State → Prop} {out : pO} {S' : pS} {as : Nat → Nat} {S : pS} {pc kind idx a b : Nat} {x : Int} {ls st : List Value} {H : Heap} {locs : List Loc} {mls : Array Slot}
    (hMM : M < 312) (cx : Cx M p s m args meth c) (hE : EF E A s s.heap) (hA : ∀ q, s.heap.size ≤ q → A q) (hW : Wd D E A as S s H) (hS : va_S A s.heap H locs) (hL : LV (mJ M) as mls (mxL M) ls) (hls : okL S.1 ls) (hst : okL S.1 st) (hn0 : n0 ≤ S.1) (hsl0 : sl0 ≤ S.2.1)
    (hz : S'.1 ≤ 601024) (hfr : d + 10 ≤ R.frames) (hlo : 40 * d + 400 ≤ R.locals) (hRc : S'.1 - n0 ≤ R.cells) (hRs : S'.2.1 - sl0 ≤ R.slots)
    (hC : okC M kind x a b idx = true) (hkind : kind ≤ 2) (hd : decode (mB M) pc = .ok (ivk kind idx, 3))
    (h : pCall (fun M' as s' => bif Nat.beq kind 1 || rcv M' as s' then cD (fun d' M' as s' => run f d' M' 0 (ent M' as) [] s') d M' as s' else none) (fun pc' ls' st' s' => run f d M pc' ls' st' s') (bif Nat.beq kind 0 then pX (fun pc' ls' st' s' => run f d M pc' ls' st' s') M pc ls else nX) M pc 3 x a b ls st S = some (out, S'))
    (ct : Ct l D E M p e R s m args below meth c A n0 sl0 Q (fun pc' ls' st' s' => run f d M pc' ls' st' s') (out, S') as S) (hfin : Fin_ l D E M p e R s m args below meth c A as S n0 sl0 out S' Q) :
    W p l e R s m args below meth c H locs (S.1 - n0) (S.2.1 - sl0) Q (F0 m pc mls (st.map (rv as))) := by
  obtain ⟨hbl, hwt, harg, hres⟩ := pCall_i h
  clear h
  obtain ⟨tys, ws, hK, hP, hD, hHR, hAs⟩ := hW
  have hav : okL S.1 (st.take b).reverse := okL_rev (okL_take hst)
  have haM : a < 312 := by
    simp only [okC, Bool.and_eq_true, Nat.blt_eq] at hC
    exact hC.1.1
  have hk4 : mK a ≠ 4 := by
    simp only [okC, Bool.and_eq_true] at hC
    obtain ⟨-, hC⟩ := hC
    match kind, hkind with
    | 0, _ => simp only [Bool.and_eq_true, Nat.beq_eq] at hC; omega
    | 1, _ => simp only [Bool.and_eq_true, Bool.or_eq_true, Nat.beq_eq] at hC; omega
    | 2, _ => simp only [Bool.and_eq_true, Nat.beq_eq] at hC; omega
  have hfree : ∀ q, va_A ws H.size q → A q := by
    intro q hq
    rcases hq with ⟨k, e, h⟩ | h
    · exact hD.2 k _ h
    · exact hA q (Nat.le_trans hS.1 h)
  rcases hres with ⟨v, S1, hc, hk⟩ | ⟨k, i, S1, hc, hk⟩
  · obtain ⟨hg, hc⟩ := bf_i hc
    cases d with
    | zero => cases hc
    | succ d =>
      have hc : run f d a 0 (ent a (st.take b).reverse) [] S = some (.inl v, S1) := hc
      have g1 := run_ge f d a 0 _ _ S _ _ hc
      have g2 := run_ge f (d + 1) M (pc + 3) _ _ S1 _ _ hk
      have hM := met_ret ih (tys := tys) (ws := ws) (sz := H.size) hc haM hk4 (Nat.le_trans g2.1 hz) hHR hAs hav harg
      have hrn := run_ret (cells := S.1 - n0) (slots := S.2.1 - sl0) (R := R) (p := p) (e := e) (below := below) (x := x) cx hE hA hK hP hD hS hHR hL hC hkind hd hbl hwt (fun hk1 => by
        simp only [Bool.or_eq_true, Nat.beq_eq] at hg
        rcases hg with hg | hg
        · exact absurd hg hk1
        · exact hg) (by omega) (by omega) ⟨by have := g1.1; have := g2.1; omega, by have := g1.2; have := g2.2; omega⟩ hM
      refine my_call hrn hS (A1 := va_A ws H.size) (fun q _ hq => hfree q hq) hfree (fun st v t hq => hq.2) (fun v' st₀ t H1 locs1 ht hwm hq hS1 => ?_)
      obtain ⟨⟨as1, ha, hv, hW1, ho⟩, -⟩ := hq
      cases hv
      have e1 : S.1 - n0 + (S1.1 - S.1) = S1.1 - n0 := by have := g1.1; omega
      have e2 : S.2.1 - sl0 + (S1.2.1 - S.2.1) = S1.2.1 - sl0 := by have := g1.2; omega
      rw [e1, e2]
      have hdr : okL S.1 (st.drop b) := okL_drop hst
      have h2 := ct (pc + 3) ls mls (v.toList ++ st.drop b) S1 as1 H1 locs1 hk ha (Wd_mono hwm.alike.symm ht hfree hW1) hS1 (hL.ext ha hls) (okL_up g1.1 hls) (by
        intro w hw
        rcases List.mem_append.mp hw with hw | hw
        · cases v with
          | none => cases hw
          | some y => simp at hw; subst hw; exact ho _ rfl
        · exact okV_up g1.1 (hdr w hw)) g1.1 g1.2
      rw [List.map_append, okL_map hdr ha] at h2
      have e3 : v.toList.map (rv as1) = (v.map (rv as1)).toList := by cases v <;> rfl
      rw [e3] at h2
      exact h2
  · obtain ⟨hg, hc⟩ := bf_i hc
    cases d with
    | zero => cases hc
    | succ d =>
      have hcr : run f d a 0 (ent a (st.take b).reverse) [] S = some (.inr (k, i), S1) := hc
      have g1 := run_ge f d a 0 _ _ S _ _ hcr
      match kind, hkind with
      | 1, _ => cases hk
      | 2, _ => cases hk
      | 0, _ =>
        have hk : pX (fun pc' ls' st' s' => run f (d + 1) M pc' ls' st' s') M pc ls k i S1 = some (out, S') := hk
        have hrc : rcv a (st.take b).reverse S = true := hg
        have g2 := ge_X (K := fun pc' ls' st' s' => run f (d + 1) M pc' ls' st' s') M pc ls (fun pc ls st s => run_ge f (d + 1) M pc ls st s) k i S1 _ _ hk
        have hka : mK a = 0 := by
          simp only [okC, Bool.and_eq_true, Nat.beq_eq] at hC
          exact hC.2.1.1.1
        have hM := met_thr ih (tys := tys) (ws := ws) (sz := H.size) hcr haM hk4 (by rw [hka]; decide) (Nat.le_trans g2.1 hz) hHR hAs hav harg
        have hrn := run_thr (cells := S.1 - n0) (slots := S.2.1 - sl0) (R := R) (p := p) (e := e) (below := below) (x := x) cx hE hA hK hP hD hS hHR hL hC hd hbl hwt hrc (by omega) (by omega) ⟨by have := g1.1; have := g2.1; omega, by have := g1.2; have := g2.2; omega⟩ hM
        refine my_callX hrn hS (A1 := va_A ws H.size) (fun q _ hq => hfree q hq) hfree (fun N st t hq => hq.2.2) (fun N ce q st₀ t H1 locs1 ht hwm hq hS1 hce hcv hcl => ?_)
        obtain ⟨rfl, ⟨as1, S0, e0, ei, hle, ha, hW1⟩, -⟩ := hq
        have e1 : S.1 - n0 + (S1.1 - S.1) = S1.1 - n0 := by have := g1.1; omega
        have e2 : S.2.1 - sl0 + (S1.2.1 - S.2.1) = S1.2.1 - sl0 := by have := g1.2; omega
        rw [e1, e2]
        have hW2 : Wd D E A as1 S0 s H1 := Wd_mono hwm.alike.symm ht hfree hW1
        have hdr : okL S.1 (st.drop b) := okL_drop hst
        by_cases h3 : mK M = 3
        · have hoh := List.all_eq_true.mp okH_all M (List.mem_range.mpr hMM)
          simp only [okH, h3, Bool.or_eq_true, Bool.not_eq_true', Bool.and_eq_true, Nat.beq_eq] at hoh
          rcases hoh with hoh | ⟨hl1, hl2⟩
          · cases hoh
          · have hown : oS (mO M) = "StillYearLaw" ∨ hnd M = [] := by
              cases hh : hnd M with
              | nil => exact Or.inr rfl
              | cons y ys =>
                cases hm2 : mH M with
                | nil => rw [hh, hm2] at hl1; cases hl1
                | cons w ws2 =>
                  rw [hh, hm2] at hl2
                  simp only [List.zip_cons_cons, List.all_cons, Bool.and_eq_true, decide_eq_true_eq] at hl2
                  exact Or.inl hl2.1.2
            have hl3 : ((hnd M).zip (mH M)).all (fun q => Nat.beq q.1.1 q.2.1 && Nat.beq q.1.2.1 q.2.2.1 && Nat.beq q.1.2.2.1 q.2.2.2.1 && ((Nat.beq q.1.2.2.2 0 && Nat.beq q.2.2.2.2 13) || (Nat.beq q.1.2.2.2 1 && Nat.beq q.2.2.2.2 31))) = true := by
              rw [List.all_eq_true] at hl2 ⊢
              intro q hq
              have := hl2 q hq
              simp only [Bool.and_eq_true] at this ⊢
              exact this.1
            have htb := cx.2.2.2.2.2.2.2.2 h3
            unfold pX at hk
            rcases hown with hown | hnil
            · have hne : hnd M ≠ [] := by
                intro hnil
                rw [hnil] at hl1
                have : mH M = [] := List.eq_nil_of_length_eq_zero hl1.symm
                exact absurd this (mH_ne M hMM h3)
              have hdn : (match hnd M with | [] => some (Sum.inr (k, i), S1) | _ => none : pR) = none := by
                cases hh : hnd M with
                | nil => exact absurd hh hne
                | cons y ys => rfl
              obtain ⟨pre, suf, x9, g3, g4, g5, g6, g7⟩ := hX_i (hnd M) (mH M) hl1 hl3 hdn hk
              have hts := cx.2.2.2.2.2.2.1
              have hown2 := cx.2.2.2.2.2.1
              rw [hown] at hown2
              have hS0 : S0.1 < pSB := by
                have h5 : S1.1 = S0.1 + 1 := by rw [e0]; rfl
                have h4 : pSB = 10000000 := rfl
                have := g2.1
                omega
              have hE2 := hE.2.2.2.2.2.2.1
              have hcast : ∀ k0, k0 < 2 → (Cond.castable (eC k0) (eC k0)).before args s = true := fun k0 hk0 => va_Nw.use rfl (hE2.1 k0 hk0)
              have hcat : ∃ nm, (Cond.classLink "StillYearLaw" x9.2.2.2 nm).before args s = true ∧ (Cond.castable (eC k) nm).before args s = true ∧ x9.2.2.2 ≠ 0 := by
                rcases g6 with ⟨g6, rfl⟩ | ⟨g6, rfl⟩
                · rw [g6]; exact ⟨eC 0, hts _ clk0, hcast 0 (by decide), by decide⟩
                · rw [g6]; exact ⟨eC 1, hts _ clk1, hcast 1 (by decide), by decide⟩
              have hk2 : k = 0 ∨ k = 1 := by rcases g6 with ⟨-, g6⟩ | ⟨-, g6⟩ <;> omega
              obtain ⟨nm, n1, n2, n3⟩ := hcat
              refine vx_catch (own := "StillYearLaw") (name := nm) (E := eC k) (ce := ce) hown2 (tableOf pre) ⟨x9.1, x9.2.1, x9.2.2.1, x9.2.2.2⟩ (tableOf suf) (by rw [htb, g3]; simp [tableOf]) ?_ ?_ n3 n1 n2 hce hcv hcl ?_
              · intro z9 hz9
                obtain ⟨y, hy, rfl⟩ := List.mem_map.mp hz9
                rcases g4 y hy with g4 | ⟨g4, hkk⟩ | ⟨g4, hkk⟩
                · left
                  cases hcv2 : covers ⟨y.1, y.2.1, y.2.2.1, y.2.2.2⟩ pc with
                  | false => rfl
                  | true => exact absurd (by simpa [covers] using hcv2) g4
                · right
                  refine ⟨by show y.2.2.2 ≠ 0; omega, eC 0, by show (Cond.classLink "StillYearLaw" y.2.2.2 (eC 0)).before args s = true; rw [g4]; exact hts _ clk0, ?_⟩
                  have : k = 1 := by omega
                  rw [this]; exact hE2.2.2
                · right
                  refine ⟨by show y.2.2.2 ≠ 0; omega, eC 1, by show (Cond.classLink "StillYearLaw" y.2.2.2 (eC 1)).before args s = true; rw [g4]; exact hts _ clk1, ?_⟩
                  have : k = 0 := by omega
                  rw [this]; exact hE2.2.1
              · simpa [covers] using g5
              · obtain ⟨tys2, ws2, q1, q2, q3, q4, q5⟩ := hW2
                have old := asN_old (as := as1) (q := q) hS0
                have g8 : S.1 ≤ S1.1 := g1.1
                have h9 := ct x9.2.2.1 ls mls [.ref i] S1 (asN as1 S0.1 q) H1 locs1 g7 (fun r hr => (old r (okR_up hle hr)).trans (ha r hr)) ⟨tys2, ws2, q1, q2, q3, by rw [e0]; exact HR_ex q4 hS0, by rw [e0]; exact AsE_ex q5 hS0⟩ hS1 (hL.ext (fun r hr => (old r (okR_up hle hr)).trans (ha r hr)) hls) (okL_up g8 hls) (okL_c.mpr ⟨Or.inl (by rw [e0, ei]; exact Nat.lt_succ_self _), okL_n⟩) g1.1 g1.2
                have e5 : [Value.ref i].map (rv (asN as1 S0.1 q)) = [.ref q] := by
                  rw [ei]
                  show [Value.ref (asN as1 S0.1 q S0.1)] = _
                  rw [asN_new]
                rw [e5] at h9
                exact h9
            · rw [hnil] at hl1
              exact absurd (List.eq_nil_of_length_eq_zero hl1.symm) (mH_ne M hMM h3)
        · have hnil : hnd M = [] := by
            by_cases h4 : mK M = 4
            · exact hnd_law M hMM h4
            · exact (mF hMM h4).2.2.2.2.1 h3
          have hk3 : some (Sum.inr (k, i), S1) = some (out, S') := by
            unfold pX at hk
            rw [hnil] at hk
            exact hk
          cases hk3
          obtain ⟨Qc, XC, rfl, htb, hx⟩ := hfin
          refine vx_out (fun x9 h9 => (htb x9 h9).elim) cx.2.2.2.1 hce hcv hcl (fun t' ht' hal => ?_) (fun z9 h9 => hS1.2.2 z9 h9) (Nat.le_refl _) (Nat.le_refl _)
          exact hx as1 S0 t' e0 ei hle ha (Wd_t hal ht' hW2) (hS1.F ht')
end
section
theorem lnkB {M idx b : Nat} (h : lkT MLt (mO M) idx = some (b, 0)) : Cond.methodLink (oS (mO M)) idx (yOf b) ∈ wT := by
  have h1 := MLt_ok h
  simpa [lW4, lW] using h1
theorem w_objI : Cond.instanceMethod objectInit ∈ wT := wT_in 131 (by decide +kernel) rfl
theorem w_objC : Cond.code objectInit ⟨#[0xb1]⟩ 1 none ∈ wT := wT_in 132 (by decide +kernel) rfl
theorem w_maxS : Cond.static Lib.Math.max.name ∈ wT := wT_in 460 (by decide +kernel) rfl
theorem w_maxC : Cond.code Lib.Math.max.name Lib.Math.max.code 2 (some .int) ∈ wT := wT_in 461 (by decide +kernel) rfl
theorem w_minS : Cond.static Lib.Math.min.name ∈ wT := wT_in 457 (by decide +kernel) rfl
theorem w_minC : Cond.code Lib.Math.min.name Lib.Math.min.code 2 (some .int) ∈ wT := wT_in 458 (by decide +kernel) rfl
theorem w_mnlS : Cond.static Lib.MathLoose.min_long.x ∈ wT := wT_in 1171 (by decide +kernel) rfl
theorem w_mnlC : Cond.code Lib.MathLoose.min_long.x Lib.MathLoose.min_long.code 4 (some .long) ∈ wT := wT_in 1172 (by decide +kernel) rfl
theorem w_mathI : Cond.initialized "java/lang/Math" ∈ wT := wT_in 110 (by decide +kernel) rfl
theorem w_sysI : Cond.initialized "java/lang/System" ∈ wT := wT_in 107 (by decide +kernel) rfl
theorem w_cpN : Cond.native arraycopyName ∈ wT := wT_in 283 (by decide +kernel) rfl
theorem w_cpS : Cond.static arraycopyName ∈ wT := wT_in 282 (by decide +kernel) rfl
/-- the words of a throw -/
def xNm : List String := ["java/lang/RuntimeException", "java/lang/Exception"]
set_option maxRecDepth 100000 in
theorem xAt : ∀ a, a < 2 → ((vx_at0 "StillYear" (348 + 3 * a) (eC a) xNm).all (fun w => decide (w ∈ wT) || (decide (w = .castable (eC a) (eC a)) || decide (w ∈ xDl.map Cond.declares))) && (vx_at0 "StillYear" (348 + 3 * a) (eC a) xNm).all vx_ot && Bundle.fit (eC a) && xNm.all Bundle.fit) = true := by decide +kernel
set_option maxHeartbeats 4000000 in
set_option maxRecDepth 10000 in
theorem stepD {l : Launch} (hl : l.stackTraces = false) {D : va_G} {E : pEnv} {M d : Nat} {p : Program} {e : Env} {R : Room} {s : State} {m : MethodId} {args : Array Value} {below : List Frame} {meth : Method} {c : Code} {A : Nat → Prop} {n0 sl0 : Nat} {Q : State → Prop} {C : Nat → List Value → pS → pR} {K : Nat → List Value → List Value → pS → pR} {out : pO} {S' : pS} {as : Nat → Nat} {S : pS} {pc len op : Nat} {x : Int} {a b : Nat} {i : Instr} {ls st : List Value} {H : Heap} {locs : List Loc} {mls : Array Slot}
    (cx : Cx M p s m args meth c) (hE : EF E A s s.heap) (hA : ∀ q, s.heap.size ≤ q → A q) (hW : Wd D E A as S s H) (hS : va_S A s.heap H locs) (hL : LV (mJ M) as mls (mxL M) ls) (hls : okL S.1 ls) (hst : okL S.1 st) (hn0 : n0 ≤ S.1) (hsl0 : sl0 ≤ S.2.1)
    (hge : ∀ pc ls st (S1 : pS), ge_ S1.1 S1.2.1 (K pc ls st S1)) (hz : S'.1 ≤ 601024) (hfr : d + 10 ≤ R.frames) (hlo : 40 * d + 400 ≤ R.locals) (hRc : S'.1 - n0 ≤ R.cells) (hRs : S'.2.1 - sl0 ≤ R.slots)
    (hd : decode (mB M) pc = .ok (i, len)) (hlen : ilen i len = true) (hok : okI M pc op x a b i = true) (hop : op = 54 ∨ (58 ≤ op ∧ op ≠ 60 ∧ op ≠ 61 ∧ op ≠ 67)) (h : pStep C K M pc (len, op, x, a, b) ls st S = some (out, S')) (ct : Ct l D E M p e R s m args below meth c A n0 sl0 Q K (out, S') as S) (hfin : Fin_ l D E M p e R s m args below meth c A as S n0 sl0 out S' Q) :
    W p l e R s m args below meth c H locs (S.1 - n0) (S.2.1 - sl0) Q (F0 m pc mls (st.map (rv as))) := by
  have cx0 := cx
  obtain ⟨hx, hb, hr, hlk, hml, hown, hts, hin, htb⟩ := cx
  have go : ∀ (pc' : Nat) (st' : List Value), K pc' ls st' S = some (out, S') → okL S.1 st' → W p l e R s m args below meth c H locs (S.1 - n0) (S.2.1 - sl0) Q (F0 m pc' mls (st'.map (rv as))) := fun pc' st' hk ho => ct pc' ls mls st' S as H locs hk (fun _ _ => rfl) hW hS hL hls ho (Nat.le_refl _) (Nat.le_refl _)
  have room0 : ∀ (pc' : Nat) (st' : List Value), K pc' ls st' S = some (out, S') → S.1 - n0 ≤ R.cells ∧ S.2.1 - sl0 ≤ R.slots := by
    intro pc' st' hk
    have h1 := hge pc' ls st' S out S' hk
    have := h1.1
    have := h1.2
    omega
  have hmls : c.maxLocals = mls.size := hml.trans hL.1.symm
  cases i
  case ireturn =>
    simp only [ilen, Nat.beq_eq] at hlen
    simp only [okI, Bool.and_eq_true, Bool.or_eq_true, Nat.beq_eq, Nat.blt_eq, Nat.ble_eq, decide_eq_true_eq, beq_iff_eq] at hok
    subst hlen
    rcases hok with ⟨rfl, ht⟩ | ⟨rfl, ht⟩
    · rw [pS_62] at h
      (have h0 := kI_i h); clear h; obtain ⟨v, r, rfl, h⟩ := h0
      cases r with
      | nil => cases h; exact hfin as H locs mls pc (fun _ _ => rfl) hW hS (fun w e => by cases e; trivial) hd (Or.inl ht)
      | cons _ _ => cases h
    · rw [pS_66] at h
      (have h0 := kI_i h); clear h; obtain ⟨v, r, rfl, h⟩ := h0
      cases r with
      | nil =>
        by_cases hv : v &&& 1 = v
        · simp only [hv, if_true] at h; cases h; exact hfin as H locs mls pc (fun _ _ => rfl) hW hS (fun w e => by cases e; trivial) hd (Or.inr ⟨ht, hv⟩)
        · simp only [hv, if_false] at h; cases h
      | cons _ _ => cases h
  case lreturn =>
    simp only [ilen, Nat.beq_eq] at hlen
    simp only [okI, Bool.and_eq_true, Bool.or_eq_true, Nat.beq_eq, Nat.blt_eq, Nat.ble_eq, decide_eq_true_eq, beq_iff_eq] at hok
    subst hlen
    obtain ⟨rfl, ht⟩ := hok
    rw [pS_63] at h
    (have h0 := kJ_i h); clear h; obtain ⟨v, r, rfl, h⟩ := h0
    cases r with
    | nil => cases h; exact hfin as H locs mls pc (fun _ _ => rfl) hW hS (fun w e => by cases e; trivial) hd ht
    | cons _ _ => cases h
  case areturn =>
    simp only [ilen, Nat.beq_eq] at hlen
    simp only [okI, Bool.and_eq_true, Bool.or_eq_true, Nat.beq_eq, Nat.blt_eq, Nat.ble_eq, decide_eq_true_eq, beq_iff_eq] at hok
    subst hlen
    obtain ⟨rfl, ht⟩ := hok
    rw [pS_64] at h
    (have h0 := kA_i h); clear h; obtain ⟨v, r, rfl, h⟩ := h0
    cases r with
    | nil =>
      cases h
      refine hfin as H locs mls pc (fun _ _ => rfl) hW hS (fun w e => by cases e; exact (okL_c.mp hst).1) hd ?_
      cases hm : mT M with
      | none => rw [hm] at ht; cases ht
      | some t => rw [hm] at ht; exact ⟨t, hm, ht⟩
    | cons _ _ => cases h
  case return_ =>
    simp only [ilen, Nat.beq_eq] at hlen
    simp only [okI, Bool.and_eq_true, Bool.or_eq_true, Nat.beq_eq, Nat.blt_eq, Nat.ble_eq, decide_eq_true_eq, beq_iff_eq] at hok
    subst hlen
    obtain ⟨rfl, ht⟩ := hok
    rw [pS_65] at h
    cases st with
    | nil => cases h; exact hfin as H locs mls pc (fun _ _ => rfl) hW hS (fun w e => by cases e) hd ht
    | cons _ _ => cases h
  case new k =>
    simp only [ilen, Nat.beq_eq] at hlen
    simp only [okI, Bool.and_eq_true, Bool.or_eq_true, Nat.beq_eq, Nat.blt_eq, decide_eq_true_eq] at hok
    subst hlen
    rcases hok with ⟨⟨⟨h9, -⟩, -⟩, -⟩ | ⟨⟨⟨⟨⟨⟨⟨rfl, ha⟩, hcl⟩, d3⟩, d4⟩, d7⟩, hmo⟩, hmk⟩
    · omega
    · rw [pS_54] at h
      obtain ⟨hwt, h⟩ := bf_i h
      cases h
      obtain ⟨Qc, XC, rfl, hnt, hxc⟩ := hfin
      have hws := xAt a ha
      simp only [Bool.and_eq_true] at hws
      obtain ⟨⟨⟨w1, w2⟩, w3⟩, w4⟩ := hws
      have hmo2 : oS (mO M) = "StillYear" := by rw [hmo]; rfl
      rw [hmo2] at hown
      have hcl2 := hts _ (CL_ok _ (List.contains_iff_mem.mp hcl))
      have hcn : clN (100 + a) = eC a := by
        have : Nat.ble 100 (100 + a) = true := Nat.ble_eq_true_of_le (by omega)
        simp [clN, this]
      simp only [cW, hcn, hmo2] at hcl2
      have hini : (Cond.initialized (eC a)).before args s = true := by
        have hz2 : ∀ c, c < 2 → ∃ q ∈ INz, q.2 = 100 + c := by decide +kernel
        obtain ⟨q, hq, hq2⟩ := hz2 a ha
        have := hts _ (INz_ok q hq)
        rw [hq2] at this
        simpa only [zW, hcn] using this
      have hcast := hE.2.2.2.2.2.2.1.1 a ha
      refine vx_throw0 (own := "StillYear") (cls := eC a) (names := xNm) (ik := k) (ic := 348 + 3 * a) (A := A) hx hb hl hown w3 (fun n hn => List.all_eq_true.mp w4 n hn) hcl2 hini ?_ ?_ hE.1.1 hE.1.2.1 hS hmls.symm hd d3 d4 d7 (fun x hx => (hnt x hx).elim) (by show 2 + 3 < R.frames; omega) ?_ ?_ ?_ hlk ?_ (fun z hz => hS.2.2 z hz) ?_ ?_
      · intro w hw
        have := List.all_eq_true.mp w1 w hw
        simp only [Bool.or_eq_true, decide_eq_true_eq] at this
        rcases this with h1 | rfl | h1
        · exact hts w h1
        · exact va_Nw.use rfl hcast
        · obtain ⟨y, hy, rfl⟩ := List.mem_map.mp h1
          exact va_Nw.use rfl (hE.1.2.2 y hy)
      · intro w hw
        simp only [List.mem_cons] at hw
        rcases hw with rfl | rfl | hw
        · rfl
        · rfl
        · exact List.all_eq_true.mp w2 w hw
      · have := stW_i (as := as) hwt
        show _ + (13 * (2 + 1) + 42) ≤ _
        omega
      · show S.1 - n0 + 1 ≤ R.cells
        have : (pEx S).1 = S.1 + 1 := rfl
        omega
      · show S.2.1 - sl0 + 6 ≤ R.slots
        have : (pEx S).2.1 = S.2.1 + 6 := rfl
        omega
      · intro t hal hsz hkp
        obtain ⟨tys, ws, hK, hP, hD, hHR, hAs⟩ := hW
        refine hxc as S t rfl rfl (Nat.le_refl _) (fun _ _ => rfl) ⟨tys, ws, va_K.moved hal hK, hP.kept (fun k q hk => hkp q.1 (vx_lt hP hk)), hD, hHR, hAs⟩ ⟨Nat.le_trans hS.1 hsz, fun q h1 h2 => ?_⟩
        rw [hkp q (Nat.lt_of_lt_of_le h1 hS.1)]
        exact hS.2.1 q h1 h2
      · have : (pEx S).1 = S.1 + 1 := rfl
        omega
      · have : (pEx S).2.1 = S.2.1 + 6 := rfl
        omega
  case invokespecial k =>
    simp only [ilen, Nat.beq_eq] at hlen
    subst hlen
    simp only [okI, Bool.and_eq_true, Bool.or_eq_true, Nat.beq_eq, beq_iff_eq] at hok
    rcases hok with (⟨h9, -⟩ | ⟨rfl, hlnk⟩) | rfl
    · omega
    · rw [pS_58] at h
      (have h0 := kA_i h); clear h; obtain ⟨q, r, rfl, h⟩ := h0
      obtain ⟨hwt, h⟩ := bf_i h
      have h2 := go _ r h (okL_c.mp hst).2
      have hwt2 := stW_i (as := as) hwt
      refine W.objInit hx hb hown (hts _ (lnkB hlnk)) (hts _ w_objI) (hts _ w_objC) rfl hmls.symm rfl hd (by omega) ?_ h2
      show 2 * 0 + _ + 12 ≤ _
      omega
    · cases h
  case invokestatic k =>
    simp only [ilen, Nat.beq_eq] at hlen
    subst hlen
    simp only [okI, Bool.and_eq_true, Bool.or_eq_true, Nat.beq_eq, beq_iff_eq] at hok
    rcases hok with (((⟨h9, -⟩ | ⟨rfl, hlnk⟩) | ⟨rfl, hlnk⟩) | ⟨rfl, hlnk⟩) | ⟨rfl, hlnk⟩
    · omega
    · rw [pS_59] at h
      (have h0 := kII_i h); clear h; obtain ⟨dp, n, r, rfl, h⟩ := h0
      (have h0 := kA_i h); clear h; obtain ⟨q1, r, rfl, h⟩ := h0
      (have h0 := kIA_i h); clear h; obtain ⟨q0, sp, r, rfl, h⟩ := h0
      obtain ⟨hwt, h⟩ := bf_i h
      obtain ⟨S1, hcp, h⟩ := bd_i h
      obtain ⟨n0', f, n1, g, c0, c1, k1, k2, k3, k4, k5, rfl⟩ := pCp_i hcp
      obtain ⟨tys, ws, hK, hP, hD, hHR, hAs⟩ := hW
      obtain ⟨j0, t0, cA0, hj0, ht0⟩ := HR_int hHR c0
      obtain ⟨j1, t1, cA1, hj1, ht1⟩ := HR_int hHR c1
      have hwt2 := stW_i (as := as) hwt
      have hr2 : okL S.1 r := (okL_c.mp (okL_c.mp (okL_c.mp (okL_c.mp (okL_c.mp hst).2).2).2).2).2
      refine va_copyi (D := D) (ty := .int) hx hb hmls hown (hts _ (lnkB hlnk)) (hts _ w_cpN) (hts _ w_cpS) (hts _ w_sysI) hK hP hD hS j0 j1 t0 t1 hj0 hj1 ht0 ht1 rfl k1 k2 k3 k4 k5 (fun _ _ => rfl) (by omega) ?_ hd (fun H1 locs1 hP1 hD1 hS1 => ?_)
      · have : nativeFrameWords "java/lang/System" "arraycopy" 5 ≤ 100 := by decide +kernel
        omega
      · exact ct _ ls mls r (pSet S q1 (cI n1 (va_cpy f g sp.toNatClampNeg dp.toNatClampNeg n.toNatClampNeg))) as H1 locs1 h (fun _ _ => rfl) ⟨tys, _, hK, hP1, hD1, HR_set (A := A) hHR c1 (by rintro ⟨_, _, h⟩; cases h) hj1 ⟨cA1, List.mem_of_getElem? ht1, rfl⟩, AsE_set hAs (by rintro ⟨_, _, h⟩; cases h)⟩ hS1 hL hls hr2 (Nat.le_refl _) (Nat.le_refl _)
    · rw [pS_68] at h
      (have h0 := kII_i h); clear h; obtain ⟨v, w, r, rfl, h⟩ := h0
      obtain ⟨hwt, h⟩ := bf_i h
      have hwt2 := stW_i (as := as) hwt
      have hr0 := room0 _ _ h
      exact va_mmax hx hb hmls hown (hts _ (lnkB hlnk)) (hts _ w_maxS) (hts _ w_mathI) (hts _ w_maxC) (by omega) (by omega) hr0.1 hr0.2 hd (go _ _ h (okL_c.mpr ⟨trivial, (okL_c.mp (okL_c.mp hst).2).2⟩))
    · rw [pS_69] at h
      (have h0 := kII_i h); clear h; obtain ⟨v, w, r, rfl, h⟩ := h0
      obtain ⟨hwt, h⟩ := bf_i h
      have hwt2 := stW_i (as := as) hwt
      have hr0 := room0 _ _ h
      exact va_mmin hx hb hmls hown (hts _ (lnkB hlnk)) (hts _ w_minS) (hts _ w_mathI) (hts _ w_minC) (by omega) (by omega) hr0.1 hr0.2 hd (go _ _ h (okL_c.mpr ⟨trivial, (okL_c.mp (okL_c.mp hst).2).2⟩))
    · rw [pS_70] at h
      (have h0 := kJJ_i h); clear h; obtain ⟨v, w, r, rfl, h⟩ := h0
      obtain ⟨hwt, h⟩ := bf_i h
      have hwt2 := stW_i (as := as) hwt
      have hr0 := room0 _ _ h
      exact va_mmin_long hx hb hmls hown (hts _ (lnkB hlnk)) (hts _ w_mnlS) (hts _ w_mathI) (hts _ w_mnlC) (by omega) (by omega) hr0.1 hr0.2 hd (go _ _ h (okL_c.mpr ⟨trivial, (okL_c.mp (okL_c.mp hst).2).2⟩))
  case athrow =>
    simp only [okI, Nat.beq_eq] at hok
    subst hok
    cases h
  case if_icmp cd zz => exfalso; cases cd <;> simp [okI, cdN] at hok <;> omega
  case ifCond cd zz => exfalso; cases cd <;> simp [okI, cdN] at hok <;> omega
  case getfield k => exfalso; simp only [okI, Bool.and_eq_true, Bool.or_eq_true, Nat.beq_eq] at hok; obtain ⟨-, h9⟩ := hok; omega
  case putfield k => exfalso; simp only [okI, Bool.and_eq_true, Bool.or_eq_true, Nat.beq_eq] at hok; obtain ⟨⟨-, h9⟩, -⟩ := hok; rcases h9 with ⟨h9, -⟩ | ⟨h9, -⟩ <;> omega
  case newarray at_ => exfalso; cases at_ <;> simp [okI] at hok <;> omega
  case ldc k => exfalso; simp only [okI, Bool.and_eq_true, Bool.or_eq_true, Nat.beq_eq] at hok; rcases hok with ⟨h9, -⟩ | ⟨h9, -⟩ <;> omega
  case ldc_w k => exfalso; simp only [okI, Bool.and_eq_true, Bool.or_eq_true, Nat.beq_eq] at hok; rcases hok with ⟨h9, -⟩ | ⟨h9, -⟩ <;> omega
  case invokevirtual k => exfalso; simp only [okI, Bool.and_eq_true, Bool.or_eq_true, Nat.beq_eq] at hok; rcases hok with (⟨h9, -⟩ | ⟨h9, -⟩) | ⟨h9, -⟩ <;> omega
  all_goals first | (simp [okI] at hok; done) | (exfalso; simp [okI] at hok; omega)
end
section
theorem stepE {l : Launch} {D : va_G} {E : pEnv} {M d : Nat} {p : Program} {e : Env} {R : Room} {s : State} {m : MethodId} {args : Array Value} {below : List Frame} {meth : Method} {c : Code} {A : Nat → Prop} {n0 sl0 : Nat} {Q : State → Prop} {C : Nat → List Value → pS → pR} {K : Nat → List Value → List Value → pS → pR} {out : pO} {S' : pS} {as : Nat → Nat} {S : pS} {pc len op : Nat} {x : Int} {a b : Nat} {i : Instr} {ls st : List Value} {H : Heap} {locs : List Loc} {mls : Array Slot}
    (cx : Cx M p s m args meth c) (hE : EF E A s s.heap) (hA : ∀ q, s.heap.size ≤ q → A q) (hW : Wd D E A as S s H) (hS : va_S A s.heap H locs) (hL : LV (mJ M) as mls (mxL M) ls) (hls : okL S.1 ls) (hst : okL S.1 st)
    (hge : ∀ pc ls st (S1 : pS), ge_ S1.1 S1.2.1 (K pc ls st S1)) (hfr : d + 10 ≤ R.frames) (hlo : 40 * d + 400 ≤ R.locals) (hRc : S'.1 - n0 ≤ R.cells) (hRs : S'.2.1 - sl0 ≤ R.slots)
    (hd : decode (mB M) pc = .ok (i, len)) (hlen : ilen i len = true) (hok : okI M pc op x a b i = true) (hop : op = 60 ∨ op = 61) (h : pStep C K M pc (len, op, x, a, b) ls st S = some (out, S')) (ct : Ct l D E M p e R s m args below meth c A n0 sl0 Q K (out, S') as S) :
    W p l e R s m args below meth c H locs (S.1 - n0) (S.2.1 - sl0) Q (F0 m pc mls (st.map (rv as))) := by
  sorry
end
section
set_option maxRecDepth 10000 in
theorem ok55 {M pc a b : Nat} {x : Int} {i : Instr} (h : okI M pc 55 x a b i = true) : ∃ k, i = .invokevirtual k ∧ okC M 0 x a b k = true := by
  cases i
  case invokevirtual k => simp only [okI, Bool.and_eq_true, Bool.or_eq_true, Nat.beq_eq] at h; rcases h with (⟨-, h⟩ | ⟨h, -⟩) | ⟨h, -⟩ <;> first | exact ⟨k, rfl, h⟩ | omega
  case if_icmp cd zz => exfalso; cases cd <;> simp [okI, cdN] at h
  case ifCond cd zz => exfalso; cases cd <;> simp [okI, cdN] at h
  case newarray at_ => exfalso; cases at_ <;> simp [okI] at h
  all_goals (exfalso; simp [okI] at h; done)
set_option maxRecDepth 10000 in
theorem ok56 {M pc a b : Nat} {x : Int} {i : Instr} (h : okI M pc 56 x a b i = true) : ∃ k, i = .invokestatic k ∧ okC M 1 x a b k = true := by
  cases i
  case invokestatic k => simp only [okI, Bool.and_eq_true, Bool.or_eq_true, Nat.beq_eq] at h; rcases h with (((⟨-, h⟩ | ⟨h, -⟩) | ⟨h, -⟩) | ⟨h, -⟩) | ⟨h, -⟩ <;> first | exact ⟨k, rfl, h⟩ | omega
  case if_icmp cd zz => exfalso; cases cd <;> simp [okI, cdN] at h
  case ifCond cd zz => exfalso; cases cd <;> simp [okI, cdN] at h
  case newarray at_ => exfalso; cases at_ <;> simp [okI] at h
  all_goals (exfalso; simp [okI] at h; done)
set_option maxRecDepth 10000 in
theorem ok57 {M pc a b : Nat} {x : Int} {i : Instr} (h : okI M pc 57 x a b i = true) : ∃ k, i = .invokespecial k ∧ okC M 2 x a b k = true := by
  cases i
  case invokespecial k => simp only [okI, Bool.and_eq_true, Bool.or_eq_true, Nat.beq_eq] at h; rcases h with (⟨-, h⟩ | ⟨h, -⟩) | h <;> first | exact ⟨k, rfl, h⟩ | omega
  case if_icmp cd zz => exfalso; cases cd <;> simp [okI, cdN] at h
  case ifCond cd zz => exfalso; cases cd <;> simp [okI, cdN] at h
  case newarray at_ => exfalso; cases at_ <;> simp [okI] at h
  all_goals (exfalso; simp [okI] at h; done)
set_option maxHeartbeats 4000000 in
set_option maxRecDepth 10000 in
/-- THE PURE MACHINE IS TRUE: what it comes to, the machine comes to -/
theorem snd_all {l : Launch} (hl : l.stackTraces = false) (D : va_G) (E : pEnv) (hokA : ∀ (M pc : Nat) (e : pE), M < 312 → pTb M pc = some e → okE M pc e = true) : ∀ f, SND l D E f := by
  intro f
  induction f with
  | zero => intro d M pc ls st S out S' h; cases h
  | succ f ih =>
    intro d M pc ls st S out S' h hz hM p e R s m args below meth c H locs mls as A n0 sl0 Q cx hE hA hW hS hL hls hst hn0 hsl0 hfr hlo hRc hRs hfin
    unfold run at h
    cases ht : pTb M pc with
    | none => rw [ht] at h; cases h
    | some en =>
      rw [ht] at h
      dsimp only at h
      have hk := hokA M pc en hM ht
      obtain ⟨len, op, x, a, b⟩ := en
      unfold okE at hk
      dsimp only at hk
      cases hd : decode (mB M) pc with
      | error er => rw [hd] at hk; cases hk
      | ok r =>
        obtain ⟨i, n⟩ := r
        rw [hd] at hk
        simp only [Bool.and_eq_true, Nat.beq_eq] at hk
        obtain ⟨⟨hn, hlen⟩, hok⟩ := hk
        subst hn
        have ct : Ct l D E M p e R s m args below meth c A n0 sl0 Q (fun pc' ls' st' s' => run f d M pc' ls' st' s') (out, S') as S := fun pc' ls' mls' st' S1 as1 H1 locs1 hk ha hW1 hS1 hL1 hls1 hst1 hn hs => ih d M pc' ls' st' S1 out S' hk hz hM p e R s m args below meth c H1 locs1 mls' as1 A n0 sl0 Q cx hE hA hW1 hS1 hL1 hls1 hst1 (Nat.le_trans hn0 hn) (Nat.le_trans hsl0 hs) hfr hlo hRc hRs (Fin_mono hfin hn ha)
        have hge : ∀ pc ls st (S1 : pS), ge_ S1.1 S1.2.1 ((fun pc' ls' st' s' => run f d M pc' ls' st' s') pc ls st S1) := fun pc ls st S1 => run_ge f d M pc ls st S1
        by_cases h1 : op < 38 ∨ op = 67
        · exact stepA cx hE hA hW hS hL hls hst hn0 hsl0 hd hlen hok h1 h ct
        by_cases h2 : 38 ≤ op ∧ op < 54
        · exact stepB cx hE hA hW hS hL hls hst hn0 hsl0 hge hz hRc hRs hd hlen hok h2 h ct
        by_cases h3 : op = 55
        · subst h3
          obtain ⟨k, rfl, hC⟩ := ok55 hok
          simp only [ilen, Nat.beq_eq] at hlen
          subst hlen
          exact stepC ih (kind := 0) hM cx hE hA hW hS hL hls hst hn0 hsl0 hz hfr hlo hRc hRs hC (by decide) hd h ct hfin
        by_cases h4 : op = 56
        · subst h4
          obtain ⟨k, rfl, hC⟩ := ok56 hok
          simp only [ilen, Nat.beq_eq] at hlen
          subst hlen
          exact stepC ih (kind := 1) hM cx hE hA hW hS hL hls hst hn0 hsl0 hz hfr hlo hRc hRs hC (by decide) hd h ct hfin
        by_cases h5 : op = 57
        · subst h5
          obtain ⟨k, rfl, hC⟩ := ok57 hok
          simp only [ilen, Nat.beq_eq] at hlen
          subst hlen
          exact stepC ih (kind := 2) hM cx hE hA hW hS hL hls hst hn0 hsl0 hz hfr hlo hRc hRs hC (by decide) hd h ct hfin
        by_cases h6 : op = 60 ∨ op = 61
        · exact stepE cx hE hA hW hS hL hls hst hge hfr hlo hRc hRs hd hlen hok h6 h ct
        · exact stepD hl cx hE hA hW hS hL hls hst hn0 hsl0 hge hz hfr hlo hRc hRs hd hlen hok (by omega) h ct hfin
end
