/-- a private method of a class that the tables say can be made, by its rows of tables_1 -/
def lw_okq (q : MethodName × Nat) : Prop := (q.1.cls ≠ "java/lang/invoke/MethodHandle" ∧ q.1.cls ≠ "java/lang/invoke/VarHandle") ∧ Cond.instantiable q.1.cls q.2 ∈ tables_1 ∧ Cond.privateMethod q.1 ∈ tables_1 ∧ Cond.instanceMethod q.1 ∈ tables_1
theorem lw_p0 : lw_okq (⟨"GraveNews", "isNewsSet", "(I)Z"⟩, 11) := ⟨⟨by decide +kernel, by decide +kernel⟩, List.mem_of_getElem? (i := 14) (by decide +kernel), List.mem_of_getElem? (i := 288) (by decide +kernel), List.mem_of_getElem? (i := 289) (by decide +kernel)⟩
theorem lw_p1 : lw_okq (⟨"GraveNews", "isNews", "(J)Z"⟩, 11) := ⟨⟨by decide +kernel, by decide +kernel⟩, List.mem_of_getElem? (i := 14) (by decide +kernel), List.mem_of_getElem? (i := 307) (by decide +kernel), List.mem_of_getElem? (i := 308) (by decide +kernel)⟩
theorem lw_p2 : lw_okq (⟨"GraveNews", "isGrave", "(I)Z"⟩, 11) := ⟨⟨by decide +kernel, by decide +kernel⟩, List.mem_of_getElem? (i := 14) (by decide +kernel), List.mem_of_getElem? (i := 330) (by decide +kernel), List.mem_of_getElem? (i := 331) (by decide +kernel)⟩
theorem lw_p3 : lw_okq (⟨"GraveNews$Tape", "takeGrave", "(LGraveNews$Graves;)Z"⟩, 3) := ⟨⟨by decide +kernel, by decide +kernel⟩, List.mem_of_getElem? (i := 159) (by decide +kernel), List.mem_of_getElem? (i := 384) (by decide +kernel), List.mem_of_getElem? (i := 385) (by decide +kernel)⟩
theorem lw_p4 : lw_okq (⟨"GraveNews$Tape", "nextLetter", "()I"⟩, 3) := ⟨⟨by decide +kernel, by decide +kernel⟩, List.mem_of_getElem? (i := 159) (by decide +kernel), List.mem_of_getElem? (i := 388) (by decide +kernel), List.mem_of_getElem? (i := 389) (by decide +kernel)⟩
theorem lw_p5 : lw_okq (⟨"GraveNews$Tape", "takeFigure", "(I)I"⟩, 3) := ⟨⟨by decide +kernel, by decide +kernel⟩, List.mem_of_getElem? (i := 159) (by decide +kernel), List.mem_of_getElem? (i := 395) (by decide +kernel), List.mem_of_getElem? (i := 396) (by decide +kernel)⟩
theorem lw_p6 : lw_okq (⟨"GraveNews$Tape", "takes", "(I)Z"⟩, 3) := ⟨⟨by decide +kernel, by decide +kernel⟩, List.mem_of_getElem? (i := 159) (by decide +kernel), List.mem_of_getElem? (i := 399) (by decide +kernel), List.mem_of_getElem? (i := 400) (by decide +kernel)⟩
theorem lw_p7 : lw_okq (⟨"GraveNews$Tape", "takeNumber", "(I)I"⟩, 3) := ⟨⟨by decide +kernel, by decide +kernel⟩, List.mem_of_getElem? (i := 159) (by decide +kernel), List.mem_of_getElem? (i := 403) (by decide +kernel), List.mem_of_getElem? (i := 404) (by decide +kernel)⟩
theorem lw_p8 : lw_okq (⟨"GraveNews$Tape", "takeNews", "(LGraveNews$Papers;)Z"⟩, 3) := ⟨⟨by decide +kernel, by decide +kernel⟩, List.mem_of_getElem? (i := 159) (by decide +kernel), List.mem_of_getElem? (i := 434) (by decide +kernel), List.mem_of_getElem? (i := 435) (by decide +kernel)⟩
theorem lw_p9 : lw_okq (⟨"GraveNews$Tape", "takeAhead", "(LGraveNews$Papers;I)I"⟩, 3) := ⟨⟨by decide +kernel, by decide +kernel⟩, List.mem_of_getElem? (i := 159) (by decide +kernel), List.mem_of_getElem? (i := 438) (by decide +kernel), List.mem_of_getElem? (i := 439) (by decide +kernel)⟩
theorem lw_p10 : lw_okq (⟨"GraveNews$Tape", "takeBarred", "()I"⟩, 3) := ⟨⟨by decide +kernel, by decide +kernel⟩, List.mem_of_getElem? (i := 159) (by decide +kernel), List.mem_of_getElem? (i := 443) (by decide +kernel), List.mem_of_getElem? (i := 444) (by decide +kernel)⟩
theorem lw_p11 : lw_okq (⟨"GraveNews$Tape", "takeReading", "(II)I"⟩, 3) := ⟨⟨by decide +kernel, by decide +kernel⟩, List.mem_of_getElem? (i := 159) (by decide +kernel), List.mem_of_getElem? (i := 468) (by decide +kernel), List.mem_of_getElem? (i := 469) (by decide +kernel)⟩
theorem lw_p12 : lw_okq (⟨"GraveNews", "isReader", "(J)Z"⟩, 11) := ⟨⟨by decide +kernel, by decide +kernel⟩, List.mem_of_getElem? (i := 14) (by decide +kernel), List.mem_of_getElem? (i := 548) (by decide +kernel), List.mem_of_getElem? (i := 549) (by decide +kernel)⟩
theorem lw_p13 : lw_okq (⟨"GraveNews", "isReading", "(JJJ)Z"⟩, 11) := ⟨⟨by decide +kernel, by decide +kernel⟩, List.mem_of_getElem? (i := 14) (by decide +kernel), List.mem_of_getElem? (i := 557) (by decide +kernel), List.mem_of_getElem? (i := 558) (by decide +kernel)⟩
theorem lw_p14 : lw_okq (⟨"GraveNews", "countOrders", "()I"⟩, 11) := ⟨⟨by decide +kernel, by decide +kernel⟩, List.mem_of_getElem? (i := 14) (by decide +kernel), List.mem_of_getElem? (i := 635) (by decide +kernel), List.mem_of_getElem? (i := 636) (by decide +kernel)⟩
theorem lw_p15 : lw_okq (⟨"GraveNews", "isGraveSet", "(I)Z"⟩, 11) := ⟨⟨by decide +kernel, by decide +kernel⟩, List.mem_of_getElem? (i := 14) (by decide +kernel), List.mem_of_getElem? (i := 672) (by decide +kernel), List.mem_of_getElem? (i := 673) (by decide +kernel)⟩
def lw_privs_1 : List (MethodName × Nat) := [(⟨"GraveNews", "isNewsSet", "(I)Z"⟩, 11), (⟨"GraveNews", "isNews", "(J)Z"⟩, 11), (⟨"GraveNews", "isGrave", "(I)Z"⟩, 11), (⟨"GraveNews$Tape", "takeGrave", "(LGraveNews$Graves;)Z"⟩, 3), (⟨"GraveNews$Tape", "nextLetter", "()I"⟩, 3), (⟨"GraveNews$Tape", "takeFigure", "(I)I"⟩, 3), (⟨"GraveNews$Tape", "takes", "(I)Z"⟩, 3), (⟨"GraveNews$Tape", "takeNumber", "(I)I"⟩, 3), (⟨"GraveNews$Tape", "takeNews", "(LGraveNews$Papers;)Z"⟩, 3), (⟨"GraveNews$Tape", "takeAhead", "(LGraveNews$Papers;I)I"⟩, 3), (⟨"GraveNews$Tape", "takeBarred", "()I"⟩, 3), (⟨"GraveNews$Tape", "takeReading", "(II)I"⟩, 3), (⟨"GraveNews", "isReader", "(J)Z"⟩, 11), (⟨"GraveNews", "isReading", "(JJJ)Z"⟩, 11), (⟨"GraveNews", "countOrders", "()I"⟩, 11), (⟨"GraveNews", "isGraveSet", "(I)Z"⟩, 11)]
theorem lw_r1 : ∀ q ∈ lw_privs_1, lw_okq q := List.forall_mem_cons.mpr ⟨lw_p0, List.forall_mem_cons.mpr ⟨lw_p1, List.forall_mem_cons.mpr ⟨lw_p2, List.forall_mem_cons.mpr ⟨lw_p3, List.forall_mem_cons.mpr ⟨lw_p4, List.forall_mem_cons.mpr ⟨lw_p5, List.forall_mem_cons.mpr ⟨lw_p6, List.forall_mem_cons.mpr ⟨lw_p7, List.forall_mem_cons.mpr ⟨lw_p8, List.forall_mem_cons.mpr ⟨lw_p9, List.forall_mem_cons.mpr ⟨lw_p10, List.forall_mem_cons.mpr ⟨lw_p11, List.forall_mem_cons.mpr ⟨lw_p12, List.forall_mem_cons.mpr ⟨lw_p13, List.forall_mem_cons.mpr ⟨lw_p14, List.forall_mem_cons.mpr ⟨lw_p15, fun _ h => absurd h List.not_mem_nil⟩⟩⟩⟩⟩⟩⟩⟩⟩⟩⟩⟩⟩⟩⟩⟩
theorem lw_p16 : lw_okq (⟨"GraveNews", "refusalOfReadings", "(IIII)I"⟩, 11) := ⟨⟨by decide +kernel, by decide +kernel⟩, List.mem_of_getElem? (i := 14) (by decide +kernel), List.mem_of_getElem? (i := 733) (by decide +kernel), List.mem_of_getElem? (i := 734) (by decide +kernel)⟩
theorem lw_p17 : lw_okq (⟨"GraveNews", "refusalOfItems", "(IIII)I"⟩, 11) := ⟨⟨by decide +kernel, by decide +kernel⟩, List.mem_of_getElem? (i := 14) (by decide +kernel), List.mem_of_getElem? (i := 737) (by decide +kernel), List.mem_of_getElem? (i := 738) (by decide +kernel)⟩
theorem lw_p18 : lw_okq (⟨"GraveNews$Sheet", "cut", "(J)J"⟩, 4) := ⟨⟨by decide +kernel, by decide +kernel⟩, List.mem_of_getElem? (i := 182) (by decide +kernel), List.mem_of_getElem? (i := 769) (by decide +kernel), List.mem_of_getElem? (i := 770) (by decide +kernel)⟩
theorem lw_p19 : lw_okq (⟨"GraveNewsModel", "addGrave", "(III)V"⟩, 33) := ⟨⟨by decide +kernel, by decide +kernel⟩, List.mem_of_getElem? (i := 796) (by decide +kernel), List.mem_of_getElem? (i := 915) (by decide +kernel), List.mem_of_getElem? (i := 916) (by decide +kernel)⟩
theorem lw_p20 : lw_okq (⟨"GraveNewsModel", "mayBeAhead", "(I)I"⟩, 33) := ⟨⟨by decide +kernel, by decide +kernel⟩, List.mem_of_getElem? (i := 796) (by decide +kernel), List.mem_of_getElem? (i := 933) (by decide +kernel), List.mem_of_getElem? (i := 934) (by decide +kernel)⟩
theorem lw_p21 : lw_okq (⟨"GraveNewsModel", "addNews", "(IIII)V"⟩, 33) := ⟨⟨by decide +kernel, by decide +kernel⟩, List.mem_of_getElem? (i := 796) (by decide +kernel), List.mem_of_getElem? (i := 937) (by decide +kernel), List.mem_of_getElem? (i := 938) (by decide +kernel)⟩
theorem lw_p22 : lw_okq (⟨"GraveNewsModel", "isNews", "(J)Z"⟩, 33) := ⟨⟨by decide +kernel, by decide +kernel⟩, List.mem_of_getElem? (i := 796) (by decide +kernel), List.mem_of_getElem? (i := 945) (by decide +kernel), List.mem_of_getElem? (i := 946) (by decide +kernel)⟩
theorem lw_p23 : lw_okq (⟨"GraveNewsModel", "isGrave", "(I)Z"⟩, 33) := ⟨⟨by decide +kernel, by decide +kernel⟩, List.mem_of_getElem? (i := 796) (by decide +kernel), List.mem_of_getElem? (i := 967) (by decide +kernel), List.mem_of_getElem? (i := 968) (by decide +kernel)⟩
theorem lw_p24 : lw_okq (⟨"GraveNewsModel", "owedTo", "(I)I"⟩, 33) := ⟨⟨by decide +kernel, by decide +kernel⟩, List.mem_of_getElem? (i := 796) (by decide +kernel), List.mem_of_getElem? (i := 971) (by decide +kernel), List.mem_of_getElem? (i := 972) (by decide +kernel)⟩
theorem lw_p25 : lw_okq (⟨"GraveNewsModel", "isOwed", "(II)Z"⟩, 33) := ⟨⟨by decide +kernel, by decide +kernel⟩, List.mem_of_getElem? (i := 796) (by decide +kernel), List.mem_of_getElem? (i := 975) (by decide +kernel), List.mem_of_getElem? (i := 976) (by decide +kernel)⟩
theorem lw_p26 : lw_okq (⟨"GraveNewsModel", "arrears", "(I)I"⟩, 33) := ⟨⟨by decide +kernel, by decide +kernel⟩, List.mem_of_getElem? (i := 796) (by decide +kernel), List.mem_of_getElem? (i := 983) (by decide +kernel), List.mem_of_getElem? (i := 984) (by decide +kernel)⟩
theorem lw_p27 : lw_okq (⟨"GraveNewsModel", "isLate", "(I)Z"⟩, 33) := ⟨⟨by decide +kernel, by decide +kernel⟩, List.mem_of_getElem? (i := 796) (by decide +kernel), List.mem_of_getElem? (i := 987) (by decide +kernel), List.mem_of_getElem? (i := 988) (by decide +kernel)⟩
theorem lw_p28 : lw_okq (⟨"GraveNewsModel", "readAll", "(I)Z"⟩, 33) := ⟨⟨by decide +kernel, by decide +kernel⟩, List.mem_of_getElem? (i := 796) (by decide +kernel), List.mem_of_getElem? (i := 1005) (by decide +kernel), List.mem_of_getElem? (i := 1006) (by decide +kernel)⟩
theorem lw_p29 : lw_okq (⟨"GraveNewsModel", "readGrave", "(I)Z"⟩, 33) := ⟨⟨by decide +kernel, by decide +kernel⟩, List.mem_of_getElem? (i := 796) (by decide +kernel), List.mem_of_getElem? (i := 1009) (by decide +kernel), List.mem_of_getElem? (i := 1010) (by decide +kernel)⟩
theorem lw_p30 : lw_okq (⟨"GraveNewsModel", "nextLetter", "()I"⟩, 33) := ⟨⟨by decide +kernel, by decide +kernel⟩, List.mem_of_getElem? (i := 796) (by decide +kernel), List.mem_of_getElem? (i := 1013) (by decide +kernel), List.mem_of_getElem? (i := 1014) (by decide +kernel)⟩
theorem lw_p31 : lw_okq (⟨"GraveNewsModel", "readFigure", "(I)I"⟩, 33) := ⟨⟨by decide +kernel, by decide +kernel⟩, List.mem_of_getElem? (i := 796) (by decide +kernel), List.mem_of_getElem? (i := 1020) (by decide +kernel), List.mem_of_getElem? (i := 1021) (by decide +kernel)⟩
def lw_privs_2 : List (MethodName × Nat) := [(⟨"GraveNews", "refusalOfReadings", "(IIII)I"⟩, 11), (⟨"GraveNews", "refusalOfItems", "(IIII)I"⟩, 11), (⟨"GraveNews$Sheet", "cut", "(J)J"⟩, 4), (⟨"GraveNewsModel", "addGrave", "(III)V"⟩, 33), (⟨"GraveNewsModel", "mayBeAhead", "(I)I"⟩, 33), (⟨"GraveNewsModel", "addNews", "(IIII)V"⟩, 33), (⟨"GraveNewsModel", "isNews", "(J)Z"⟩, 33), (⟨"GraveNewsModel", "isGrave", "(I)Z"⟩, 33), (⟨"GraveNewsModel", "owedTo", "(I)I"⟩, 33), (⟨"GraveNewsModel", "isOwed", "(II)Z"⟩, 33), (⟨"GraveNewsModel", "arrears", "(I)I"⟩, 33), (⟨"GraveNewsModel", "isLate", "(I)Z"⟩, 33), (⟨"GraveNewsModel", "readAll", "(I)Z"⟩, 33), (⟨"GraveNewsModel", "readGrave", "(I)Z"⟩, 33), (⟨"GraveNewsModel", "nextLetter", "()I"⟩, 33), (⟨"GraveNewsModel", "readFigure", "(I)I"⟩, 33)]
theorem lw_r2 : ∀ q ∈ lw_privs_2, lw_okq q := List.forall_mem_cons.mpr ⟨lw_p16, List.forall_mem_cons.mpr ⟨lw_p17, List.forall_mem_cons.mpr ⟨lw_p18, List.forall_mem_cons.mpr ⟨lw_p19, List.forall_mem_cons.mpr ⟨lw_p20, List.forall_mem_cons.mpr ⟨lw_p21, List.forall_mem_cons.mpr ⟨lw_p22, List.forall_mem_cons.mpr ⟨lw_p23, List.forall_mem_cons.mpr ⟨lw_p24, List.forall_mem_cons.mpr ⟨lw_p25, List.forall_mem_cons.mpr ⟨lw_p26, List.forall_mem_cons.mpr ⟨lw_p27, List.forall_mem_cons.mpr ⟨lw_p28, List.forall_mem_cons.mpr ⟨lw_p29, List.forall_mem_cons.mpr ⟨lw_p30, List.forall_mem_cons.mpr ⟨lw_p31, fun _ h => absurd h List.not_mem_nil⟩⟩⟩⟩⟩⟩⟩⟩⟩⟩⟩⟩⟩⟩⟩⟩
theorem lw_p32 : lw_okq (⟨"GraveNewsModel", "takes", "(I)Z"⟩, 33) := ⟨⟨by decide +kernel, by decide +kernel⟩, List.mem_of_getElem? (i := 796) (by decide +kernel), List.mem_of_getElem? (i := 1024) (by decide +kernel), List.mem_of_getElem? (i := 1025) (by decide +kernel)⟩
theorem lw_p33 : lw_okq (⟨"GraveNewsModel", "readNumber", "(I)I"⟩, 33) := ⟨⟨by decide +kernel, by decide +kernel⟩, List.mem_of_getElem? (i := 796) (by decide +kernel), List.mem_of_getElem? (i := 1028) (by decide +kernel), List.mem_of_getElem? (i := 1029) (by decide +kernel)⟩
theorem lw_p34 : lw_okq (⟨"GraveNewsModel", "readNews", "(I)Z"⟩, 33) := ⟨⟨by decide +kernel, by decide +kernel⟩, List.mem_of_getElem? (i := 796) (by decide +kernel), List.mem_of_getElem? (i := 1034) (by decide +kernel), List.mem_of_getElem? (i := 1035) (by decide +kernel)⟩
theorem lw_p35 : lw_okq (⟨"GraveNewsModel", "readAhead", "(II)I"⟩, 33) := ⟨⟨by decide +kernel, by decide +kernel⟩, List.mem_of_getElem? (i := 796) (by decide +kernel), List.mem_of_getElem? (i := 1038) (by decide +kernel), List.mem_of_getElem? (i := 1039) (by decide +kernel)⟩
theorem lw_p36 : lw_okq (⟨"GraveNewsModel", "readBarred", "()I"⟩, 33) := ⟨⟨by decide +kernel, by decide +kernel⟩, List.mem_of_getElem? (i := 796) (by decide +kernel), List.mem_of_getElem? (i := 1044) (by decide +kernel), List.mem_of_getElem? (i := 1045) (by decide +kernel)⟩
theorem lw_p37 : lw_okq (⟨"GraveNewsModel", "readReading", "(I)Z"⟩, 33) := ⟨⟨by decide +kernel, by decide +kernel⟩, List.mem_of_getElem? (i := 796) (by decide +kernel), List.mem_of_getElem? (i := 1048) (by decide +kernel), List.mem_of_getElem? (i := 1049) (by decide +kernel)⟩
theorem lw_p38 : lw_okq (⟨"GraveNewsModel", "isReader", "(J)Z"⟩, 33) := ⟨⟨by decide +kernel, by decide +kernel⟩, List.mem_of_getElem? (i := 796) (by decide +kernel), List.mem_of_getElem? (i := 1052) (by decide +kernel), List.mem_of_getElem? (i := 1053) (by decide +kernel)⟩
theorem lw_p39 : lw_okq (⟨"GraveNewsModel", "end", "(Z)I"⟩, 33) := ⟨⟨by decide +kernel, by decide +kernel⟩, List.mem_of_getElem? (i := 796) (by decide +kernel), List.mem_of_getElem? (i := 1056) (by decide +kernel), List.mem_of_getElem? (i := 1057) (by decide +kernel)⟩
theorem lw_p40 : lw_okq (⟨"GraveNewsModel", "forget", "()V"⟩, 33) := ⟨⟨by decide +kernel, by decide +kernel⟩, List.mem_of_getElem? (i := 796) (by decide +kernel), List.mem_of_getElem? (i := 1060) (by decide +kernel), List.mem_of_getElem? (i := 1061) (by decide +kernel)⟩
theorem lw_p41 : lw_okq (⟨"GraveNewsModel", "wrongedBy", "(III)I"⟩, 33) := ⟨⟨by decide +kernel, by decide +kernel⟩, List.mem_of_getElem? (i := 796) (by decide +kernel), List.mem_of_getElem? (i := 1072) (by decide +kernel), List.mem_of_getElem? (i := 1073) (by decide +kernel)⟩
theorem lw_p42 : lw_okq (⟨"GraveNewsModel", "hearers", "(III)I"⟩, 33) := ⟨⟨by decide +kernel, by decide +kernel⟩, List.mem_of_getElem? (i := 796) (by decide +kernel), List.mem_of_getElem? (i := 1076) (by decide +kernel), List.mem_of_getElem? (i := 1077) (by decide +kernel)⟩
theorem lw_p43 : lw_okq (⟨"GraveNewsModel", "hearsOne", "(IIII)Z"⟩, 33) := ⟨⟨by decide +kernel, by decide +kernel⟩, List.mem_of_getElem? (i := 796) (by decide +kernel), List.mem_of_getElem? (i := 1080) (by decide +kernel), List.mem_of_getElem? (i := 1081) (by decide +kernel)⟩
theorem lw_p44 : lw_okq (⟨"GraveNewsModel", "readNow", "(III)I"⟩, 33) := ⟨⟨by decide +kernel, by decide +kernel⟩, List.mem_of_getElem? (i := 796) (by decide +kernel), List.mem_of_getElem? (i := 1093) (by decide +kernel), List.mem_of_getElem? (i := 1094) (by decide +kernel)⟩
theorem lw_p45 : lw_okq (⟨"GraveNewsModel", "note", "()V"⟩, 33) := ⟨⟨by decide +kernel, by decide +kernel⟩, List.mem_of_getElem? (i := 796) (by decide +kernel), List.mem_of_getElem? (i := 1097) (by decide +kernel), List.mem_of_getElem? (i := 1098) (by decide +kernel)⟩
theorem lw_p46 : lw_okq (⟨"GraveNewsModel", "tell", "(III)V"⟩, 33) := ⟨⟨by decide +kernel, by decide +kernel⟩, List.mem_of_getElem? (i := 796) (by decide +kernel), List.mem_of_getElem? (i := 1101) (by decide +kernel), List.mem_of_getElem? (i := 1102) (by decide +kernel)⟩
theorem lw_p47 : lw_okq (⟨"GraveNewsModel", "isReading", "(JJJ)Z"⟩, 33) := ⟨⟨by decide +kernel, by decide +kernel⟩, List.mem_of_getElem? (i := 796) (by decide +kernel), List.mem_of_getElem? (i := 1120) (by decide +kernel), List.mem_of_getElem? (i := 1121) (by decide +kernel)⟩
def lw_privs_3 : List (MethodName × Nat) := [(⟨"GraveNewsModel", "takes", "(I)Z"⟩, 33), (⟨"GraveNewsModel", "readNumber", "(I)I"⟩, 33), (⟨"GraveNewsModel", "readNews", "(I)Z"⟩, 33), (⟨"GraveNewsModel", "readAhead", "(II)I"⟩, 33), (⟨"GraveNewsModel", "readBarred", "()I"⟩, 33), (⟨"GraveNewsModel", "readReading", "(I)Z"⟩, 33), (⟨"GraveNewsModel", "isReader", "(J)Z"⟩, 33), (⟨"GraveNewsModel", "end", "(Z)I"⟩, 33), (⟨"GraveNewsModel", "forget", "()V"⟩, 33), (⟨"GraveNewsModel", "wrongedBy", "(III)I"⟩, 33), (⟨"GraveNewsModel", "hearers", "(III)I"⟩, 33), (⟨"GraveNewsModel", "hearsOne", "(IIII)Z"⟩, 33), (⟨"GraveNewsModel", "readNow", "(III)I"⟩, 33), (⟨"GraveNewsModel", "note", "()V"⟩, 33), (⟨"GraveNewsModel", "tell", "(III)V"⟩, 33), (⟨"GraveNewsModel", "isReading", "(JJJ)Z"⟩, 33)]
theorem lw_r3 : ∀ q ∈ lw_privs_3, lw_okq q := List.forall_mem_cons.mpr ⟨lw_p32, List.forall_mem_cons.mpr ⟨lw_p33, List.forall_mem_cons.mpr ⟨lw_p34, List.forall_mem_cons.mpr ⟨lw_p35, List.forall_mem_cons.mpr ⟨lw_p36, List.forall_mem_cons.mpr ⟨lw_p37, List.forall_mem_cons.mpr ⟨lw_p38, List.forall_mem_cons.mpr ⟨lw_p39, List.forall_mem_cons.mpr ⟨lw_p40, List.forall_mem_cons.mpr ⟨lw_p41, List.forall_mem_cons.mpr ⟨lw_p42, List.forall_mem_cons.mpr ⟨lw_p43, List.forall_mem_cons.mpr ⟨lw_p44, List.forall_mem_cons.mpr ⟨lw_p45, List.forall_mem_cons.mpr ⟨lw_p46, List.forall_mem_cons.mpr ⟨lw_p47, fun _ h => absurd h List.not_mem_nil⟩⟩⟩⟩⟩⟩⟩⟩⟩⟩⟩⟩⟩⟩⟩⟩
theorem lw_p48 : lw_okq (⟨"GraveNewsModel", "nextDraw", "(I)I"⟩, 33) := ⟨⟨by decide +kernel, by decide +kernel⟩, List.mem_of_getElem? (i := 796) (by decide +kernel), List.mem_of_getElem? (i := 1137) (by decide +kernel), List.mem_of_getElem? (i := 1138) (by decide +kernel)⟩
theorem lw_p49 : lw_okq (⟨"GraveNewsModel", "lacking", "(I)I"⟩, 33) := ⟨⟨by decide +kernel, by decide +kernel⟩, List.mem_of_getElem? (i := 796) (by decide +kernel), List.mem_of_getElem? (i := 1153) (by decide +kernel), List.mem_of_getElem? (i := 1154) (by decide +kernel)⟩
theorem lw_p50 : lw_okq (⟨"GraveNewsModel", "findCover", "(II)I"⟩, 33) := ⟨⟨by decide +kernel, by decide +kernel⟩, List.mem_of_getElem? (i := 796) (by decide +kernel), List.mem_of_getElem? (i := 1163) (by decide +kernel), List.mem_of_getElem? (i := 1164) (by decide +kernel)⟩
theorem lw_p51 : lw_okq (⟨"GraveNewsModel", "areApart", "(II)Z"⟩, 33) := ⟨⟨by decide +kernel, by decide +kernel⟩, List.mem_of_getElem? (i := 796) (by decide +kernel), List.mem_of_getElem? (i := 1167) (by decide +kernel), List.mem_of_getElem? (i := 1168) (by decide +kernel)⟩
theorem lw_p52 : lw_okq (⟨"GraveNewsModel", "areGraves", "(I)Z"⟩, 33) := ⟨⟨by decide +kernel, by decide +kernel⟩, List.mem_of_getElem? (i := 796) (by decide +kernel), List.mem_of_getElem? (i := 1185) (by decide +kernel), List.mem_of_getElem? (i := 1186) (by decide +kernel)⟩
theorem lw_p53 : lw_okq (⟨"GraveNewsModel", "allWeights", "()I"⟩, 33) := ⟨⟨by decide +kernel, by decide +kernel⟩, List.mem_of_getElem? (i := 796) (by decide +kernel), List.mem_of_getElem? (i := 1189) (by decide +kernel), List.mem_of_getElem? (i := 1190) (by decide +kernel)⟩
theorem lw_p54 : lw_okq (⟨"GraveNewsModel", "weightOf", "(III)I"⟩, 33) := ⟨⟨by decide +kernel, by decide +kernel⟩, List.mem_of_getElem? (i := 796) (by decide +kernel), List.mem_of_getElem? (i := 1193) (by decide +kernel), List.mem_of_getElem? (i := 1194) (by decide +kernel)⟩
theorem lw_p55 : lw_okq (⟨"GraveNewsModel", "carried", "(IIZ)I"⟩, 33) := ⟨⟨by decide +kernel, by decide +kernel⟩, List.mem_of_getElem? (i := 796) (by decide +kernel), List.mem_of_getElem? (i := 1224) (by decide +kernel), List.mem_of_getElem? (i := 1225) (by decide +kernel)⟩
theorem lw_p56 : lw_okq (⟨"GraveNewsModel", "lacksRow", "(IIII)I"⟩, 33) := ⟨⟨by decide +kernel, by decide +kernel⟩, List.mem_of_getElem? (i := 796) (by decide +kernel), List.mem_of_getElem? (i := 1250) (by decide +kernel), List.mem_of_getElem? (i := 1251) (by decide +kernel)⟩
theorem lw_p57 : lw_okq (⟨"GraveNewsModel", "lacksReadings", "(IIII)I"⟩, 33) := ⟨⟨by decide +kernel, by decide +kernel⟩, List.mem_of_getElem? (i := 796) (by decide +kernel), List.mem_of_getElem? (i := 1262) (by decide +kernel), List.mem_of_getElem? (i := 1263) (by decide +kernel)⟩
def lw_privs_4 : List (MethodName × Nat) := [(⟨"GraveNewsModel", "nextDraw", "(I)I"⟩, 33), (⟨"GraveNewsModel", "lacking", "(I)I"⟩, 33), (⟨"GraveNewsModel", "findCover", "(II)I"⟩, 33), (⟨"GraveNewsModel", "areApart", "(II)Z"⟩, 33), (⟨"GraveNewsModel", "areGraves", "(I)Z"⟩, 33), (⟨"GraveNewsModel", "allWeights", "()I"⟩, 33), (⟨"GraveNewsModel", "weightOf", "(III)I"⟩, 33), (⟨"GraveNewsModel", "carried", "(IIZ)I"⟩, 33), (⟨"GraveNewsModel", "lacksRow", "(IIII)I"⟩, 33), (⟨"GraveNewsModel", "lacksReadings", "(IIII)I"⟩, 33)]
theorem lw_r4 : ∀ q ∈ lw_privs_4, lw_okq q := List.forall_mem_cons.mpr ⟨lw_p48, List.forall_mem_cons.mpr ⟨lw_p49, List.forall_mem_cons.mpr ⟨lw_p50, List.forall_mem_cons.mpr ⟨lw_p51, List.forall_mem_cons.mpr ⟨lw_p52, List.forall_mem_cons.mpr ⟨lw_p53, List.forall_mem_cons.mpr ⟨lw_p54, List.forall_mem_cons.mpr ⟨lw_p55, List.forall_mem_cons.mpr ⟨lw_p56, List.forall_mem_cons.mpr ⟨lw_p57, fun _ h => absurd h List.not_mem_nil⟩⟩⟩⟩⟩⟩⟩⟩⟩⟩
def lw_privs : List (MethodName × Nat) := lw_privs_1 ++ (lw_privs_2 ++ (lw_privs_3 ++ (lw_privs_4)))
def lw_tbl : List Cond := k2_sels lw_privs ++ tables_1
theorem lw_privs_ok : ∀ q ∈ lw_privs, lw_okq q := by
  show ∀ q ∈ lw_privs_1 ++ (lw_privs_2 ++ (lw_privs_3 ++ (lw_privs_4))), lw_okq q
  exact List.forall_mem_append.mpr ⟨lw_r1, List.forall_mem_append.mpr ⟨lw_r2, List.forall_mem_append.mpr ⟨lw_r3, lw_r4⟩⟩⟩
def RX0 : String := "GraveNews$Covers"
def TX0 : u_T := fun k => match k with
  | 0 => ("GraveNews$Covers", "size", "I", false)
  | 1 => ("GraveNews$Covers", "places", "[I", true)
  | 2 => ("GraveNews$Covers", "hearing", "[I", true)
  | 3 => ("GraveNews$Covers", "found", "I", false)
  | _ => ("GraveNews$Covers", "row", "[I", true)
def tyX0 : Nat → FieldType := fun k => match k with
  | 0 => .int
  | 1 => .array .int
  | 2 => .array .int
  | 3 => .int
  | _ => .array .int
abbrev wsX00 : List Cond := u_ws RX0 TX0 5
theorem nmX0 : ∀ a, a < 5 → ∀ b, b < 5 → a ≠ b → (TX0 a).2.1 ≠ (TX0 b).2.1 := by decide +kernel
theorem tyX0_ok : ∀ k, k < 5 → parseFieldDescriptor (TX0 k).2.2.1 = some (tyX0 k) := by decide +kernel
abbrev cX0_init : ByteArray := prog_2_method_1_code
def yX0_init : MethodName := ⟨RX0, "<init>", "()V"⟩
abbrev cX0_clear : ByteArray := prog_2_method_2_code
def yX0_clear : MethodName := ⟨RX0, "clear", "()V"⟩
abbrev cX0_add : ByteArray := prog_2_method_3_code
def yX0_add : MethodName := ⟨RX0, "add", "(II)V"⟩
abbrev cX0_search : ByteArray := prog_2_method_4_code
def yX0_search : MethodName := ⟨RX0, "search", "(I)Z"⟩
abbrev cX0_isFound : ByteArray := prog_2_method_5_code
def yX0_isFound : MethodName := ⟨RX0, "isFound", "(IIII)Z"⟩
abbrev cX0_searchOne : ByteArray := prog_2_method_6_code
def yX0_searchOne : MethodName := ⟨RX0, "searchOne", "(I)Z"⟩
abbrev cX0_searchTwo : ByteArray := prog_2_method_7_code
def yX0_searchTwo : MethodName := ⟨RX0, "searchTwo", "(I)Z"⟩
abbrev cX0_searchThree : ByteArray := prog_2_method_8_code
def yX0_searchThree : MethodName := ⟨RX0, "searchThree", "(I)Z"⟩
def RX1 : String := "GraveNews$Graves"
def TX1 : u_T := fun k => match k with
  | 0 => ("GraveNews$Graves", "size", "I", false)
  | 1 => ("GraveNews$Graves", "kinds", "[I", true)
  | 2 => ("GraveNews$Graves", "places", "[I", true)
  | 3 => ("GraveNews$Graves", "years", "[I", true)
  | 4 => ("GraveNews$Graves", "heard", "[I", true)
  | 5 => ("GraveNews$Graves", "wrongs", "[I", true)
  | _ => ("GraveNews$Graves", "since", "[I", true)
def tyX1 : Nat → FieldType := fun k => match k with
  | 0 => .int
  | 1 => .array .int
  | 2 => .array .int
  | 3 => .array .int
  | 4 => .array .int
  | 5 => .array .int
  | _ => .array .int
abbrev wsX10 : List Cond := u_ws RX1 TX1 7
theorem nmX1 : ∀ a, a < 7 → ∀ b, b < 7 → a ≠ b → (TX1 a).2.1 ≠ (TX1 b).2.1 := by decide +kernel
theorem tyX1_ok : ∀ k, k < 7 → parseFieldDescriptor (TX1 k).2.2.1 = some (tyX1 k) := by decide +kernel
abbrev cX1_init : ByteArray := prog_3_method_1_code
def yX1_init : MethodName := ⟨RX1, "<init>", "()V"⟩
abbrev cX1_add : ByteArray := prog_3_method_2_code
def yX1_add : MethodName := ⟨RX1, "add", "(III)V"⟩
abbrev cX1_forget : ByteArray := prog_3_method_3_code
def yX1_forget : MethodName := ⟨RX1, "forget", "()V"⟩
abbrev cX1_allWrongs : ByteArray := prog_3_method_4_code
def yX1_allWrongs : MethodName := ⟨RX1, "allWrongs", "()I"⟩
abbrev cX1_become : ByteArray := prog_3_method_5_code
def yX1_become : MethodName := ⟨RX1, "become", "(LGraveNews$Graves;)V"⟩
def RX2 : String := "GraveNews$Papers"
def TX2 : u_T := fun k => match k with
  | 0 => ("GraveNews$Papers", "size", "I", false)
  | 1 => ("GraveNews$Papers", "orders", "I", false)
  | 2 => ("GraveNews$Papers", "years", "[I", true)
  | 3 => ("GraveNews$Papers", "ahead", "[I", true)
  | 4 => ("GraveNews$Papers", "barred", "[I", true)
  | _ => ("GraveNews$Papers", "isShort", "[I", true)
def tyX2 : Nat → FieldType := fun k => match k with
  | 0 => .int
  | 1 => .int
  | 2 => .array .int
  | 3 => .array .int
  | 4 => .array .int
  | _ => .array .int
abbrev wsX20 : List Cond := u_ws RX2 TX2 6
theorem nmX2 : ∀ a, a < 6 → ∀ b, b < 6 → a ≠ b → (TX2 a).2.1 ≠ (TX2 b).2.1 := by decide +kernel
theorem tyX2_ok : ∀ k, k < 6 → parseFieldDescriptor (TX2 k).2.2.1 = some (tyX2 k) := by decide +kernel
abbrev cX2_init : ByteArray := prog_4_method_1_code
def yX2_init : MethodName := ⟨RX2, "<init>", "()V"⟩
abbrev cX2_add : ByteArray := prog_4_method_2_code
def yX2_add : MethodName := ⟨RX2, "add", "(IIII)V"⟩
abbrev cX2_clear : ByteArray := prog_4_method_3_code
def yX2_clear : MethodName := ⟨RX2, "clear", "()V"⟩
abbrev cX2_areNoLater : ByteArray := prog_4_method_4_code
def yX2_areNoLater : MethodName := ⟨RX2, "areNoLater", "(II)Z"⟩
abbrev cX2_ofYear : ByteArray := prog_4_method_5_code
def yX2_ofYear : MethodName := ⟨RX2, "ofYear", "(I)I"⟩
abbrev cX2_canFollow : ByteArray := prog_4_method_6_code
def yX2_canFollow : MethodName := ⟨RX2, "canFollow", "(II)Z"⟩
abbrev cX2_countInto : ByteArray := prog_4_method_7_code
def yX2_countInto : MethodName := ⟨RX2, "countInto", "([I)I"⟩
abbrev cX2_inLastOrder : ByteArray := prog_4_method_8_code
def yX2_inLastOrder : MethodName := ⟨RX2, "inLastOrder", "(I)I"⟩
abbrev cX2_greatestBehind : ByteArray := prog_4_method_9_code
def yX2_greatestBehind : MethodName := ⟨RX2, "greatestBehind", "(I)I"⟩
abbrev cX2_become : ByteArray := prog_4_method_10_code
def yX2_become : MethodName := ⟨RX2, "become", "(LGraveNews$Papers;)V"⟩
def RX3 : String := "GraveNews$Parish"
def TX3 : u_T := fun k => match k with
  | 0 => ("GraveNews$Parish", "graves", "LGraveNews$Graves;", true)
  | 1 => ("GraveNews$Parish", "papers", "LGraveNews$Papers;", true)
  | 2 => ("GraveNews$Parish", "readers", "I", false)
  | 3 => ("GraveNews$Parish", "reaches", "[I", true)
  | 4 => ("GraveNews$Parish", "windNow", "I", false)
  | 5 => ("GraveNews$Parish", "weights", "[I", true)
  | 6 => ("GraveNews$Parish", "yearNow", "I", false)
  | 7 => ("GraveNews$Parish", "draw", "I", false)
  | 8 => ("GraveNews$Parish", "readings", "I", false)
  | 9 => ("GraveNews$Parish", "undos", "I", false)
  | 10 => ("GraveNews$Parish", "undoNews", "[I", true)
  | 11 => ("GraveNews$Parish", "undoHeard", "[I", true)
  | _ => ("GraveNews$Parish", "undoWronged", "[I", true)
def tyX3 : Nat → FieldType := fun k => match k with
  | 0 => .object "GraveNews$Graves"
  | 1 => .object "GraveNews$Papers"
  | 2 => .int
  | 3 => .array .int
  | 4 => .int
  | 5 => .array .int
  | 6 => .int
  | 7 => .int
  | 8 => .int
  | 9 => .int
  | 10 => .array .int
  | 11 => .array .int
  | _ => .array .int
abbrev wsX30 : List Cond := u_ws RX3 TX3 13
theorem nmX3 : ∀ a, a < 13 → ∀ b, b < 13 → a ≠ b → (TX3 a).2.1 ≠ (TX3 b).2.1 := by decide +kernel
theorem tyX3_ok : ∀ k, k < 13 → parseFieldDescriptor (TX3 k).2.2.1 = some (tyX3 k) := by decide +kernel
abbrev cX3_init : ByteArray := prog_5_method_1_code
def yX3_init : MethodName := ⟨RX3, "<init>", "()V"⟩
abbrev cX3_become : ByteArray := prog_5_method_2_code
def yX3_become : MethodName := ⟨RX3, "become", "(LGraveNews$Parish;)V"⟩
abbrev cX3_hearers : ByteArray := prog_5_method_3_code
def yX3_hearers : MethodName := ⟨RX3, "hearers", "(III)I"⟩
abbrev cX3_farFrom : ByteArray := prog_5_method_4_code
def yX3_farFrom : MethodName := ⟨RX3, "farFrom", "(III)I"⟩
abbrev cX3_alongWind : ByteArray := prog_5_method_5_code
def yX3_alongWind : MethodName := ⟨RX3, "alongWind", "(III)I"⟩
abbrev cX3_kindHears : ByteArray := prog_5_method_6_code
def yX3_kindHears : MethodName := ⟨RX3, "kindHears", "(IIII)Z"⟩
abbrev cX3_isOwed : ByteArray := prog_5_method_7_code
def yX3_isOwed : MethodName := ⟨RX3, "isOwed", "(II)Z"⟩
abbrev cX3_owedAmong : ByteArray := prog_5_method_8_code
def yX3_owedAmong : MethodName := ⟨RX3, "owedAmong", "(II)I"⟩
abbrev cX3_owedTo : ByteArray := prog_5_method_9_code
def yX3_owedTo : MethodName := ⟨RX3, "owedTo", "(I)I"⟩
abbrev cX3_arrearsOf : ByteArray := prog_5_method_10_code
def yX3_arrearsOf : MethodName := ⟨RX3, "arrearsOf", "(I)I"⟩
abbrev cX3_owedBy : ByteArray := prog_5_method_11_code
def yX3_owedBy : MethodName := ⟨RX3, "owedBy", "(I)I"⟩
abbrev cX3_heardOf : ByteArray := prog_5_method_12_code
def yX3_heardOf : MethodName := ⟨RX3, "heardOf", "(I)I"⟩
abbrev cX3_inArrearsOf : ByteArray := prog_5_method_13_code
def yX3_inArrearsOf : MethodName := ⟨RX3, "inArrearsOf", "(I)I"⟩
abbrev cX3_isLate : ByteArray := prog_5_method_14_code
def yX3_isLate : MethodName := ⟨RX3, "isLate", "(I)Z"⟩
abbrev cX3_allArrears : ByteArray := prog_5_method_15_code
def yX3_allArrears : MethodName := ⟨RX3, "allArrears", "()I"⟩
abbrev cX3_paidGraves : ByteArray := prog_5_method_16_code
def yX3_paidGraves : MethodName := ⟨RX3, "paidGraves", "()I"⟩
abbrev cX3_lateGraves : ByteArray := prog_5_method_17_code
def yX3_lateGraves : MethodName := ⟨RX3, "lateGraves", "()I"⟩
abbrev cX3_firstPaidLate : ByteArray := prog_5_method_18_code
def yX3_firstPaidLate : MethodName := ⟨RX3, "firstPaidLate", "(I)I"⟩
abbrev cX3_wrongedOf : ByteArray := prog_5_method_19_code
def yX3_wrongedOf : MethodName := ⟨RX3, "wrongedOf", "(II[I)I"⟩
abbrev cX3_isWrong : ByteArray := prog_5_method_20_code
def yX3_isWrong : MethodName := ⟨RX3, "isWrong", "(III)Z"⟩
abbrev cX3_hold : ByteArray := prog_5_method_21_code
def yX3_hold : MethodName := ⟨RX3, "hold", "(III)Z"⟩
abbrev cX3_keepUndo : ByteArray := prog_5_method_22_code
def yX3_keepUndo : MethodName := ⟨RX3, "keepUndo", "(III)V"⟩
abbrev cX3_unhold : ByteArray := prog_5_method_23_code
def yX3_unhold : MethodName := ⟨RX3, "unhold", "()V"⟩
abbrev cX3_drawn : ByteArray := prog_5_method_24_code
def yX3_drawn : MethodName := ⟨RX3, "drawn", "(I)I"⟩
abbrev cX3_heardInWrongOrder : ByteArray := prog_5_method_25_code
def yX3_heardInWrongOrder : MethodName := ⟨RX3, "heardInWrongOrder", "(III)Z"⟩
abbrev cX3_allWeights : ByteArray := prog_5_method_26_code
def yX3_allWeights : MethodName := ⟨RX3, "allWeights", "()I"⟩
abbrev cX3_weightsOfHearing : ByteArray := prog_5_method_27_code
def yX3_weightsOfHearing : MethodName := ⟨RX3, "weightsOfHearing", "(III)I"⟩
def RX4 : String := "GraveNews$Sheet"
def TX4 : u_T := fun k => match k with
  | 0 => ("GraveNews$Sheet", "holds", "Z", false)
  | 1 => ("GraveNews$Sheet", "lane", "I", false)
  | 2 => ("GraveNews$Sheet", "size", "I", false)
  | _ => ("GraveNews$Sheet", "items", "[J", true)
def tyX4 : Nat → FieldType := fun k => match k with
  | 0 => .boolean
  | 1 => .int
  | 2 => .int
  | _ => .array .long
abbrev wsX40 : List Cond := u_ws RX4 TX4 4
theorem nmX4 : ∀ a, a < 4 → ∀ b, b < 4 → a ≠ b → (TX4 a).2.1 ≠ (TX4 b).2.1 := by decide +kernel
theorem tyX4_ok : ∀ k, k < 4 → parseFieldDescriptor (TX4 k).2.2.1 = some (tyX4 k) := by decide +kernel
abbrev cX4_init : ByteArray := prog_6_method_1_code
def yX4_init : MethodName := ⟨RX4, "<init>", "()V"⟩
abbrev cX4_renew : ByteArray := prog_6_method_2_code
def yX4_renew : MethodName := ⟨RX4, "renew", "(II)V"⟩
abbrev cX4_reaches : ByteArray := prog_6_method_3_code
def yX4_reaches : MethodName := ⟨RX4, "reaches", "(II)Z"⟩
abbrev cX4_put : ByteArray := prog_6_method_4_code
def yX4_put : MethodName := ⟨RX4, "put", "(IJ)V"⟩
abbrev cX4_cut : ByteArray := prog_6_method_5_code
def yX4_cut : MethodName := ⟨RX4, "cut", "(J)J"⟩
def RX5 : String := "GraveNews$Tape"
def TX5 : u_T := fun k => match k with
  | 0 => ("GraveNews$Tape", "size", "I", false)
  | 1 => ("GraveNews$Tape", "at", "I", false)
  | _ => ("GraveNews$Tape", "letters", "[B", true)
def tyX5 : Nat → FieldType := fun k => match k with
  | 0 => .int
  | 1 => .int
  | _ => .array .byte
abbrev wsX50 : List Cond := u_ws RX5 TX5 3
theorem nmX5 : ∀ a, a < 3 → ∀ b, b < 3 → a ≠ b → (TX5 a).2.1 ≠ (TX5 b).2.1 := by decide +kernel
theorem tyX5_ok : ∀ k, k < 3 → parseFieldDescriptor (TX5 k).2.2.1 = some (tyX5 k) := by decide +kernel
abbrev cX5_init : ByteArray := prog_7_method_1_code
def yX5_init : MethodName := ⟨RX5, "<init>", "()V"⟩
abbrev cX5_add : ByteArray := prog_7_method_2_code
def yX5_add : MethodName := ⟨RX5, "add", "(I)V"⟩
abbrev cX5_faultHere : ByteArray := prog_7_method_3_code
def yX5_faultHere : MethodName := ⟨RX5, "faultHere", "()I"⟩
abbrev cX5_takeYard : ByteArray := prog_7_method_4_code
def yX5_takeYard : MethodName := ⟨RX5, "takeYard", "(LGraveNews$Graves;)Z"⟩
abbrev cX5_takeGrave : ByteArray := prog_7_method_5_code
def yX5_takeGrave : MethodName := ⟨RX5, "takeGrave", "(LGraveNews$Graves;)Z"⟩
abbrev cX5_kindOf : ByteArray := prog_7_method_6_code
def yX5_kindOf : MethodName := ⟨RX5, "kindOf", "(I)I"⟩
abbrev cX5_takePaper : ByteArray := prog_7_method_7_code
def yX5_takePaper : MethodName := ⟨RX5, "takePaper", "(LGraveNews$Papers;)Z"⟩
abbrev cX5_takeNews : ByteArray := prog_7_method_8_code
def yX5_takeNews : MethodName := ⟨RX5, "takeNews", "(LGraveNews$Papers;)Z"⟩
abbrev cX5_takeAhead : ByteArray := prog_7_method_9_code
def yX5_takeAhead : MethodName := ⟨RX5, "takeAhead", "(LGraveNews$Papers;I)I"⟩
abbrev cX5_takeBarred : ByteArray := prog_7_method_10_code
def yX5_takeBarred : MethodName := ⟨RX5, "takeBarred", "()I"⟩
abbrev cX5_takeDay : ByteArray := prog_7_method_11_code
def yX5_takeDay : MethodName := ⟨RX5, "takeDay", "([III)I"⟩
abbrev cX5_takeReading : ByteArray := prog_7_method_12_code
def yX5_takeReading : MethodName := ⟨RX5, "takeReading", "(II)I"⟩
abbrev cX5_readerIn : ByteArray := prog_7_method_13_code
def yX5_readerIn : MethodName := ⟨RX5, "readerIn", "(I)I"⟩
abbrev cX5_placeIn : ByteArray := prog_7_method_14_code
def yX5_placeIn : MethodName := ⟨RX5, "placeIn", "(I)I"⟩
abbrev cX5_newsIn : ByteArray := prog_7_method_15_code
def yX5_newsIn : MethodName := ⟨RX5, "newsIn", "(I)I"⟩
abbrev cX5_nextLetter : ByteArray := prog_7_method_16_code
def yX5_nextLetter : MethodName := ⟨RX5, "nextLetter", "()I"⟩
abbrev cX5_takes : ByteArray := prog_7_method_17_code
def yX5_takes : MethodName := ⟨RX5, "takes", "(I)Z"⟩
abbrev cX5_takeFigure : ByteArray := prog_7_method_18_code
def yX5_takeFigure : MethodName := ⟨RX5, "takeFigure", "(I)I"⟩
abbrev cX5_takeNumber : ByteArray := prog_7_method_19_code
def yX5_takeNumber : MethodName := ⟨RX5, "takeNumber", "(I)I"⟩
def RX6 : String := "GraveNews"
def TX6 : u_T := fun k => match k with
  | 0 => ("GraveNews", "parish", "LGraveNews$Parish;", true)
  | 1 => ("GraveNews", "kept", "LGraveNews$Parish;", true)
  | 2 => ("GraveNews", "isKept", "Z", false)
  | 3 => ("GraveNews", "tape", "LGraveNews$Tape;", true)
  | 4 => ("GraveNews", "typedGraves", "LGraveNews$Graves;", true)
  | 5 => ("GraveNews", "typedPapers", "LGraveNews$Papers;", true)
  | 6 => ("GraveNews", "typedReadings", "[I", true)
  | 7 => ("GraveNews", "sheets", "[LGraveNews$Sheet;", true)
  | 8 => ("GraveNews", "trialHeard", "[I", true)
  | 9 => ("GraveNews", "covers", "LGraveNews$Covers;", true)
  | _ => ("GraveNews", "ways", "[I", false)
def tyX6 : Nat → FieldType := fun k => match k with
  | 0 => .object "GraveNews$Parish"
  | 1 => .object "GraveNews$Parish"
  | 2 => .boolean
  | 3 => .object "GraveNews$Tape"
  | 4 => .object "GraveNews$Graves"
  | 5 => .object "GraveNews$Papers"
  | 6 => .array .int
  | 7 => .array (.object "GraveNews$Sheet")
  | 8 => .array .int
  | 9 => .object "GraveNews$Covers"
  | _ => .array .int
abbrev wsX60 : List Cond := u_ws RX6 TX6 11
theorem nmX6 : ∀ a, a < 11 → ∀ b, b < 11 → a ≠ b → (TX6 a).2.1 ≠ (TX6 b).2.1 := by decide +kernel
theorem tyX6_ok : ∀ k, k < 11 → parseFieldDescriptor (TX6 k).2.2.1 = some (tyX6 k) := by decide +kernel
abbrev cX6_init : ByteArray := prog_1_method_1_code
def yX6_init : MethodName := ⟨RX6, "<init>", "()V"⟩
abbrev cX6_grave : ByteArray := prog_1_method_2_code
def yX6_grave : MethodName := ⟨RX6, "grave", "(III)I"⟩
abbrev cX6_out : ByteArray := prog_1_method_3_code
def yX6_out : MethodName := ⟨RX6, "out", "()I"⟩
abbrev cX6_reader : ByteArray := prog_1_method_4_code
def yX6_reader : MethodName := ⟨RX6, "reader", "(I)I"⟩
abbrev cX6_news : ByteArray := prog_1_method_5_code
def yX6_news : MethodName := ⟨RX6, "news", "(III)I"⟩
abbrev cX6_bar : ByteArray := prog_1_method_6_code
def yX6_bar : MethodName := ⟨RX6, "bar", "(II)I"⟩
abbrev cX6_wind : ByteArray := prog_1_method_7_code
def yX6_wind : MethodName := ⟨RX6, "wind", "(I)I"⟩
abbrev cX6_weight : ByteArray := prog_1_method_8_code
def yX6_weight : MethodName := ⟨RX6, "weight", "(II)I"⟩
abbrev cX6_now : ByteArray := prog_1_method_9_code
def yX6_now : MethodName := ⟨RX6, "now", "(I)I"⟩
abbrev cX6_told : ByteArray := prog_1_method_10_code
def yX6_told : MethodName := ⟨RX6, "told", "(II)I"⟩
abbrev cX6_of : ByteArray := prog_1_method_11_code
def yX6_of : MethodName := ⟨RX6, "of", "(II)I"⟩
abbrev cX6_type : ByteArray := prog_1_method_12_code
def yX6_type : MethodName := ⟨RX6, "type", "(I)I"⟩
abbrev cX6_yard : ByteArray := prog_1_method_13_code
def yX6_yard : MethodName := ⟨RX6, "yard", "()I"⟩
abbrev cX6_paper : ByteArray := prog_1_method_14_code
def yX6_paper : MethodName := ⟨RX6, "paper", "()I"⟩
abbrev cX6_day : ByteArray := prog_1_method_15_code
def yX6_day : MethodName := ⟨RX6, "day", "()I"⟩
abbrev cX6_count : ByteArray := prog_1_method_16_code
def yX6_count : MethodName := ⟨RX6, "count", "(I)I"⟩
abbrev cX6_hears : ByteArray := prog_1_method_17_code
def yX6_hears : MethodName := ⟨RX6, "hears", "(II)I"⟩
abbrev cX6_wronged : ByteArray := prog_1_method_18_code
def yX6_wronged : MethodName := ⟨RX6, "wronged", "(III)I"⟩
abbrev cX6_read : ByteArray := prog_1_method_19_code
def yX6_read : MethodName := ⟨RX6, "read", "(III)I"⟩
abbrev cX6_undo : ByteArray := prog_1_method_20_code
def yX6_undo : MethodName := ⟨RX6, "undo", "()I"⟩
abbrev cX6_lots : ByteArray := prog_1_method_21_code
def yX6_lots : MethodName := ⟨RX6, "lots", "(I)I"⟩
abbrev cX6_seed : ByteArray := prog_1_method_22_code
def yX6_seed : MethodName := ⟨RX6, "seed", "(I)I"⟩
abbrev cX6_stand : ByteArray := prog_1_method_23_code
def yX6_stand : MethodName := ⟨RX6, "stand", "(II)I"⟩
abbrev cX6_cover : ByteArray := prog_1_method_24_code
def yX6_cover : MethodName := ⟨RX6, "cover", "(III)I"⟩
abbrev cX6_orders : ByteArray := prog_1_method_25_code
def yX6_orders : MethodName := ⟨RX6, "orders", "(I)I"⟩
abbrev cX6_years : ByteArray := prog_1_method_26_code
def yX6_years : MethodName := ⟨RX6, "years", "(II)I"⟩
abbrev cX6_chance : ByteArray := prog_1_method_27_code
def yX6_chance : MethodName := ⟨RX6, "chance", "(IIII)I"⟩
abbrev cX6_likeliest : ByteArray := prog_1_method_28_code
def yX6_likeliest : MethodName := ⟨RX6, "likeliest", "(II)I"⟩
abbrev cX6_more : ByteArray := prog_1_method_29_code
def yX6_more : MethodName := ⟨RX6, "more", "(II)I"⟩
abbrev cX6_sooner : ByteArray := prog_1_method_30_code
def yX6_sooner : MethodName := ⟨RX6, "sooner", "(II)I"⟩
abbrev cX6_hidden : ByteArray := prog_1_method_31_code
def yX6_hidden : MethodName := ⟨RX6, "hidden", "(II)J"⟩
abbrev cX6_alone : ByteArray := prog_1_method_32_code
def yX6_alone : MethodName := ⟨RX6, "alone", "(II)I"⟩
abbrev cX6_image : ByteArray := prog_1_method_33_code
def yX6_image : MethodName := ⟨RX6, "image", "()I"⟩
abbrev cX6_restore : ByteArray := prog_1_method_34_code
def yX6_restore : MethodName := ⟨RX6, "restore", "()I"⟩
abbrev cX6_which : ByteArray := prog_1_method_35_code
def yX6_which : MethodName := ⟨RX6, "which", "(IIIII)I"⟩
abbrev cX6_judged : ByteArray := prog_1_method_36_code
def yX6_judged : MethodName := ⟨RX6, "judged", "(IIII)I"⟩
abbrev cX6_film : ByteArray := prog_1_method_37_code
def yX6_film : MethodName := ⟨RX6, "film", "(III)I"⟩
abbrev cX6_sheet : ByteArray := prog_1_method_38_code
def yX6_sheet : MethodName := ⟨RX6, "sheet", "(III)I"⟩
abbrev cX6_drop : ByteArray := prog_1_method_39_code
def yX6_drop : MethodName := ⟨RX6, "drop", "(I)I"⟩
abbrev cX6_item : ByteArray := prog_1_method_40_code
def yX6_item : MethodName := ⟨RX6, "item", "(IIIJ)I"⟩
abbrev cX6_copy : ByteArray := prog_1_method_41_code
def yX6_copy : MethodName := ⟨RX6, "copy", "(IIIII)I"⟩
abbrev cX6_has : ByteArray := prog_1_method_42_code
def yX6_has : MethodName := ⟨RX6, "has", "(II)Z"⟩
abbrev cX6_isPlace : ByteArray := prog_1_method_43_code
def yX6_isPlace : MethodName := ⟨RX6, "isPlace", "(J)Z"⟩
abbrev cX6_isWind : ByteArray := prog_1_method_44_code
def yX6_isWind : MethodName := ⟨RX6, "isWind", "(I)Z"⟩
abbrev cX6_isSheet : ByteArray := prog_1_method_45_code
def yX6_isSheet : MethodName := ⟨RX6, "isSheet", "(I)Z"⟩
abbrev cX6_isLane : ByteArray := prog_1_method_46_code
def yX6_isLane : MethodName := ⟨RX6, "isLane", "(I)Z"⟩
abbrev cX6_isGrave : ByteArray := prog_1_method_47_code
def yX6_isGrave : MethodName := ⟨RX6, "isGrave", "(I)Z"⟩
abbrev cX6_isReader : ByteArray := prog_1_method_48_code
def yX6_isReader : MethodName := ⟨RX6, "isReader", "(J)Z"⟩
abbrev cX6_isNews : ByteArray := prog_1_method_49_code
def yX6_isNews : MethodName := ⟨RX6, "isNews", "(J)Z"⟩
abbrev cX6_isGraveSet : ByteArray := prog_1_method_50_code
def yX6_isGraveSet : MethodName := ⟨RX6, "isGraveSet", "(I)Z"⟩
abbrev cX6_isNewsSet : ByteArray := prog_1_method_51_code
def yX6_isNewsSet : MethodName := ⟨RX6, "isNewsSet", "(I)Z"⟩
abbrev cX6_isReading : ByteArray := prog_1_method_52_code
def yX6_isReading : MethodName := ⟨RX6, "isReading", "(JJJ)Z"⟩
abbrev cX6_refusalOfItems : ByteArray := prog_1_method_53_code
def yX6_refusalOfItems : MethodName := ⟨RX6, "refusalOfItems", "(IIII)I"⟩
abbrev cX6_refusalOfReadings : ByteArray := prog_1_method_54_code
def yX6_refusalOfReadings : MethodName := ⟨RX6, "refusalOfReadings", "(IIII)I"⟩
abbrev cX6_noteHeard : ByteArray := prog_1_method_55_code
def yX6_noteHeard : MethodName := ⟨RX6, "noteHeard", "(II[I)V"⟩
abbrev cX6_countOrders : ByteArray := prog_1_method_56_code
def yX6_countOrders : MethodName := ⟨RX6, "countOrders", "()I"⟩
abbrev cX6_inLowestTerms : ByteArray := prog_1_method_57_code
def yX6_inLowestTerms : MethodName := ⟨RX6, "inLowestTerms", "(II)I"⟩
def RX7 : String := "GraveNewsModel"
def TX7 : u_T := fun k => match k with
  | 0 => ("GraveNewsModel", "kinds", "[I", true)
  | 1 => ("GraveNewsModel", "places", "[I", true)
  | 2 => ("GraveNewsModel", "born", "[I", true)
  | 3 => ("GraveNewsModel", "graves", "I", false)
  | 4 => ("GraveNewsModel", "years", "[I", true)
  | 5 => ("GraveNewsModel", "aheads", "[I", true)
  | 6 => ("GraveNewsModel", "bars", "[I", true)
  | 7 => ("GraveNewsModel", "shorts", "I", false)
  | 8 => ("GraveNewsModel", "news", "I", false)
  | 9 => ("GraveNewsModel", "reaches", "[I", true)
  | 10 => ("GraveNewsModel", "readers", "I", false)
  | 11 => ("GraveNewsModel", "wind", "I", false)
  | 12 => ("GraveNewsModel", "weights", "[I", true)
  | 13 => ("GraveNewsModel", "now", "I", false)
  | 14 => ("GraveNewsModel", "drawn", "I", false)
  | 15 => ("GraveNewsModel", "st", "[I", true)
  | 16 => ("GraveNewsModel", "ahead", "[I", true)
  | 17 => ("GraveNewsModel", "undoMany", "I", false)
  | 18 => ("GraveNewsModel", "tape", "[I", true)
  | 19 => ("GraveNewsModel", "taped", "I", false)
  | 20 => ("GraveNewsModel", "place", "I", false)
  | 21 => ("GraveNewsModel", "reads", "I", false)
  | 22 => ("GraveNewsModel", "read", "[I", true)
  | 23 => ("GraveNewsModel", "ears", "[I", true)
  | 24 => ("GraveNewsModel", "row", "[I", true)
  | 25 => ("GraveNewsModel", "ways", "[I", true)
  | 26 => ("GraveNewsModel", "isKept", "Z", false)
  | 27 => ("GraveNewsModel", "kept", "[I", true)
  | 28 => ("GraveNewsModel", "lanes", "[I", true)
  | 29 => ("GraveNewsModel", "rowSizes", "[I", true)
  | 30 => ("GraveNewsModel", "items", "[J", true)
  | 31 => ("GraveNewsModel", "aside", "[I", true)
  | _ => ("GraveNewsModel", "moved", "[J", true)
def tyX7 : Nat → FieldType := fun k => match k with
  | 0 => .array .int
  | 1 => .array .int
  | 2 => .array .int
  | 3 => .int
  | 4 => .array .int
  | 5 => .array .int
  | 6 => .array .int
  | 7 => .int
  | 8 => .int
  | 9 => .array .int
  | 10 => .int
  | 11 => .int
  | 12 => .array .int
  | 13 => .int
  | 14 => .int
  | 15 => .array .int
  | 16 => .array .int
  | 17 => .int
  | 18 => .array .int
  | 19 => .int
  | 20 => .int
  | 21 => .int
  | 22 => .array .int
  | 23 => .array .int
  | 24 => .array .int
  | 25 => .array .int
  | 26 => .boolean
  | 27 => .array .int
  | 28 => .array .int
  | 29 => .array .int
  | 30 => .array .long
  | 31 => .array .int
  | _ => .array .long
abbrev wsX70 : List Cond := u_ws RX7 TX7 33
theorem nmX7 : ∀ a, a < 33 → ∀ b, b < 33 → a ≠ b → (TX7 a).2.1 ≠ (TX7 b).2.1 := by decide +kernel
theorem tyX7_ok : ∀ k, k < 33 → parseFieldDescriptor (TX7 k).2.2.1 = some (tyX7 k) := by decide +kernel
abbrev cX7_init : ByteArray := prog_9_method_1_code
def yX7_init : MethodName := ⟨RX7, "<init>", "()V"⟩
abbrev cX7_in : ByteArray := prog_9_method_2_code
def yX7_in : MethodName := ⟨RX7, "in", "(JJJ)Z"⟩
abbrev cX7_has : ByteArray := prog_9_method_3_code
def yX7_has : MethodName := ⟨RX7, "has", "(II)Z"⟩
abbrev cX7_ones : ByteArray := prog_9_method_4_code
def yX7_ones : MethodName := ⟨RX7, "ones", "(I)I"⟩
abbrev cX7_isGrave : ByteArray := prog_9_method_5_code
def yX7_isGrave : MethodName := ⟨RX7, "isGrave", "(I)Z"⟩
abbrev cX7_isNews : ByteArray := prog_9_method_6_code
def yX7_isNews : MethodName := ⟨RX7, "isNews", "(J)Z"⟩
abbrev cX7_isReader : ByteArray := prog_9_method_7_code
def yX7_isReader : MethodName := ⟨RX7, "isReader", "(J)Z"⟩
abbrev cX7_isPlace : ByteArray := prog_9_method_8_code
def yX7_isPlace : MethodName := ⟨RX7, "isPlace", "(J)Z"⟩
abbrev cX7_areGraves : ByteArray := prog_9_method_9_code
def yX7_areGraves : MethodName := ⟨RX7, "areGraves", "(I)Z"⟩
abbrev cX7_addGrave : ByteArray := prog_9_method_10_code
def yX7_addGrave : MethodName := ⟨RX7, "addGrave", "(III)V"⟩
abbrev cX7_grave : ByteArray := prog_9_method_11_code
def yX7_grave : MethodName := ⟨RX7, "grave", "(III)I"⟩
abbrev cX7_out : ByteArray := prog_9_method_12_code
def yX7_out : MethodName := ⟨RX7, "out", "()I"⟩
abbrev cX7_reader : ByteArray := prog_9_method_13_code
def yX7_reader : MethodName := ⟨RX7, "reader", "(I)I"⟩
abbrev cX7_mayBeAhead : ByteArray := prog_9_method_14_code
def yX7_mayBeAhead : MethodName := ⟨RX7, "mayBeAhead", "(I)I"⟩
abbrev cX7_addNews : ByteArray := prog_9_method_15_code
def yX7_addNews : MethodName := ⟨RX7, "addNews", "(IIII)V"⟩
abbrev cX7_news : ByteArray := prog_9_method_16_code
def yX7_news : MethodName := ⟨RX7, "news", "(III)I"⟩
abbrev cX7_bar : ByteArray := prog_9_method_17_code
def yX7_bar : MethodName := ⟨RX7, "bar", "(II)I"⟩
abbrev cX7_wind : ByteArray := prog_9_method_18_code
def yX7_wind : MethodName := ⟨RX7, "wind", "(I)I"⟩
abbrev cX7_weight : ByteArray := prog_9_method_19_code
def yX7_weight : MethodName := ⟨RX7, "weight", "(II)I"⟩
abbrev cX7_now : ByteArray := prog_9_method_20_code
def yX7_now : MethodName := ⟨RX7, "now", "(I)I"⟩
abbrev cX7_off : ByteArray := prog_9_method_21_code
def yX7_off : MethodName := ⟨RX7, "off", "(II)I"⟩
abbrev cX7_sign : ByteArray := prog_9_method_22_code
def yX7_sign : MethodName := ⟨RX7, "sign", "(I)I"⟩
abbrev cX7_far : ByteArray := prog_9_method_23_code
def yX7_far : MethodName := ⟨RX7, "far", "(III)I"⟩
abbrev cX7_hearsOne : ByteArray := prog_9_method_24_code
def yX7_hearsOne : MethodName := ⟨RX7, "hearsOne", "(IIII)Z"⟩
abbrev cX7_hearers : ByteArray := prog_9_method_25_code
def yX7_hearers : MethodName := ⟨RX7, "hearers", "(III)I"⟩
abbrev cX7_isOwed : ByteArray := prog_9_method_26_code
def yX7_isOwed : MethodName := ⟨RX7, "isOwed", "(II)Z"⟩
abbrev cX7_owedTo : ByteArray := prog_9_method_27_code
def yX7_owedTo : MethodName := ⟨RX7, "owedTo", "(I)I"⟩
abbrev cX7_arrears : ByteArray := prog_9_method_28_code
def yX7_arrears : MethodName := ⟨RX7, "arrears", "(I)I"⟩
abbrev cX7_isLate : ByteArray := prog_9_method_29_code
def yX7_isLate : MethodName := ⟨RX7, "isLate", "(I)Z"⟩
abbrev cX7_told : ByteArray := prog_9_method_30_code
def yX7_told : MethodName := ⟨RX7, "told", "(II)I"⟩
abbrev cX7_of : ByteArray := prog_9_method_31_code
def yX7_of : MethodName := ⟨RX7, "of", "(II)I"⟩
abbrev cX7_type : ByteArray := prog_9_method_32_code
def yX7_type : MethodName := ⟨RX7, "type", "(I)I"⟩
abbrev cX7_nextLetter : ByteArray := prog_9_method_33_code
def yX7_nextLetter : MethodName := ⟨RX7, "nextLetter", "()I"⟩
abbrev cX7_takes : ByteArray := prog_9_method_34_code
def yX7_takes : MethodName := ⟨RX7, "takes", "(I)Z"⟩
abbrev cX7_readFigure : ByteArray := prog_9_method_35_code
def yX7_readFigure : MethodName := ⟨RX7, "readFigure", "(I)I"⟩
abbrev cX7_readNumber : ByteArray := prog_9_method_36_code
def yX7_readNumber : MethodName := ⟨RX7, "readNumber", "(I)I"⟩
abbrev cX7_end : ByteArray := prog_9_method_37_code
def yX7_end : MethodName := ⟨RX7, "end", "(Z)I"⟩
abbrev cX7_kindOf : ByteArray := prog_9_method_38_code
def yX7_kindOf : MethodName := ⟨RX7, "kindOf", "(I)I"⟩
abbrev cX7_readGrave : ByteArray := prog_9_method_39_code
def yX7_readGrave : MethodName := ⟨RX7, "readGrave", "(I)Z"⟩
abbrev cX7_readAhead : ByteArray := prog_9_method_40_code
def yX7_readAhead : MethodName := ⟨RX7, "readAhead", "(II)I"⟩
abbrev cX7_readBarred : ByteArray := prog_9_method_41_code
def yX7_readBarred : MethodName := ⟨RX7, "readBarred", "()I"⟩
abbrev cX7_readNews : ByteArray := prog_9_method_42_code
def yX7_readNews : MethodName := ⟨RX7, "readNews", "(I)Z"⟩
abbrev cX7_readReading : ByteArray := prog_9_method_43_code
def yX7_readReading : MethodName := ⟨RX7, "readReading", "(I)Z"⟩
abbrev cX7_readAll : ByteArray := prog_9_method_44_code
def yX7_readAll : MethodName := ⟨RX7, "readAll", "(I)Z"⟩
abbrev cX7_forget : ByteArray := prog_9_method_45_code
def yX7_forget : MethodName := ⟨RX7, "forget", "()V"⟩
abbrev cX7_yard : ByteArray := prog_9_method_46_code
def yX7_yard : MethodName := ⟨RX7, "yard", "()I"⟩
abbrev cX7_paper : ByteArray := prog_9_method_47_code
def yX7_paper : MethodName := ⟨RX7, "paper", "()I"⟩
abbrev cX7_day : ByteArray := prog_9_method_48_code
def yX7_day : MethodName := ⟨RX7, "day", "()I"⟩
abbrev cX7_count : ByteArray := prog_9_method_49_code
def yX7_count : MethodName := ⟨RX7, "count", "(I)I"⟩
abbrev cX7_hears : ByteArray := prog_9_method_50_code
def yX7_hears : MethodName := ⟨RX7, "hears", "(II)I"⟩
abbrev cX7_wrongedBy : ByteArray := prog_9_method_51_code
def yX7_wrongedBy : MethodName := ⟨RX7, "wrongedBy", "(III)I"⟩
abbrev cX7_isReading : ByteArray := prog_9_method_52_code
def yX7_isReading : MethodName := ⟨RX7, "isReading", "(JJJ)Z"⟩
abbrev cX7_wronged : ByteArray := prog_9_method_53_code
def yX7_wronged : MethodName := ⟨RX7, "wronged", "(III)I"⟩
abbrev cX7_note : ByteArray := prog_9_method_54_code
def yX7_note : MethodName := ⟨RX7, "note", "()V"⟩
abbrev cX7_tell : ByteArray := prog_9_method_55_code
def yX7_tell : MethodName := ⟨RX7, "tell", "(III)V"⟩
abbrev cX7_readNow : ByteArray := prog_9_method_56_code
def yX7_readNow : MethodName := ⟨RX7, "readNow", "(III)I"⟩
abbrev cX7_read : ByteArray := prog_9_method_57_code
def yX7_read : MethodName := ⟨RX7, "read", "(III)I"⟩
abbrev cX7_undo : ByteArray := prog_9_method_58_code
def yX7_undo : MethodName := ⟨RX7, "undo", "()I"⟩
abbrev cX7_nextDraw : ByteArray := prog_9_method_59_code
def yX7_nextDraw : MethodName := ⟨RX7, "nextDraw", "(I)I"⟩
abbrev cX7_lots : ByteArray := prog_9_method_60_code
def yX7_lots : MethodName := ⟨RX7, "lots", "(I)I"⟩
abbrev cX7_seed : ByteArray := prog_9_method_61_code
def yX7_seed : MethodName := ⟨RX7, "seed", "(I)I"⟩
abbrev cX7_lacking : ByteArray := prog_9_method_62_code
def yX7_lacking : MethodName := ⟨RX7, "lacking", "(I)I"⟩
abbrev cX7_stand : ByteArray := prog_9_method_63_code
def yX7_stand : MethodName := ⟨RX7, "stand", "(II)I"⟩
abbrev cX7_findCover : ByteArray := prog_9_method_64_code
def yX7_findCover : MethodName := ⟨RX7, "findCover", "(II)I"⟩
abbrev cX7_areApart : ByteArray := prog_9_method_65_code
def yX7_areApart : MethodName := ⟨RX7, "areApart", "(II)Z"⟩
abbrev cX7_cover : ByteArray := prog_9_method_66_code
def yX7_cover : MethodName := ⟨RX7, "cover", "(III)I"⟩
abbrev cX7_orders : ByteArray := prog_9_method_67_code
def yX7_orders : MethodName := ⟨RX7, "orders", "(I)I"⟩
abbrev cX7_years : ByteArray := prog_9_method_68_code
def yX7_years : MethodName := ⟨RX7, "years", "(II)I"⟩
abbrev cX7_weightOf : ByteArray := prog_9_method_69_code
def yX7_weightOf : MethodName := ⟨RX7, "weightOf", "(III)I"⟩
abbrev cX7_allWeights : ByteArray := prog_9_method_70_code
def yX7_allWeights : MethodName := ⟨RX7, "allWeights", "()I"⟩
abbrev cX7_common : ByteArray := prog_9_method_71_code
def yX7_common : MethodName := ⟨RX7, "common", "(II)I"⟩
abbrev cX7_chance : ByteArray := prog_9_method_72_code
def yX7_chance : MethodName := ⟨RX7, "chance", "(IIII)I"⟩
abbrev cX7_likeliest : ByteArray := prog_9_method_73_code
def yX7_likeliest : MethodName := ⟨RX7, "likeliest", "(II)I"⟩
abbrev cX7_more : ByteArray := prog_9_method_74_code
def yX7_more : MethodName := ⟨RX7, "more", "(II)I"⟩
abbrev cX7_sooner : ByteArray := prog_9_method_75_code
def yX7_sooner : MethodName := ⟨RX7, "sooner", "(II)I"⟩
abbrev cX7_hidden : ByteArray := prog_9_method_76_code
def yX7_hidden : MethodName := ⟨RX7, "hidden", "(II)J"⟩
abbrev cX7_alone : ByteArray := prog_9_method_77_code
def yX7_alone : MethodName := ⟨RX7, "alone", "(II)I"⟩
abbrev cX7_carried : ByteArray := prog_9_method_78_code
def yX7_carried : MethodName := ⟨RX7, "carried", "(IIZ)I"⟩
abbrev cX7_image : ByteArray := prog_9_method_79_code
def yX7_image : MethodName := ⟨RX7, "image", "()I"⟩
abbrev cX7_restore : ByteArray := prog_9_method_80_code
def yX7_restore : MethodName := ⟨RX7, "restore", "()I"⟩
abbrev cX7_isSheet : ByteArray := prog_9_method_81_code
def yX7_isSheet : MethodName := ⟨RX7, "isSheet", "(II)Z"⟩
abbrev cX7_asLane : ByteArray := prog_9_method_82_code
def yX7_asLane : MethodName := ⟨RX7, "asLane", "(IJ)J"⟩
abbrev cX7_sheet : ByteArray := prog_9_method_83_code
def yX7_sheet : MethodName := ⟨RX7, "sheet", "(III)I"⟩
abbrev cX7_drop : ByteArray := prog_9_method_84_code
def yX7_drop : MethodName := ⟨RX7, "drop", "(I)I"⟩
abbrev cX7_lacksRow : ByteArray := prog_9_method_85_code
def yX7_lacksRow : MethodName := ⟨RX7, "lacksRow", "(IIII)I"⟩
abbrev cX7_item : ByteArray := prog_9_method_86_code
def yX7_item : MethodName := ⟨RX7, "item", "(IIIJ)I"⟩
abbrev cX7_lacksReadings : ByteArray := prog_9_method_87_code
def yX7_lacksReadings : MethodName := ⟨RX7, "lacksReadings", "(IIII)I"⟩
abbrev cX7_which : ByteArray := prog_9_method_88_code
def yX7_which : MethodName := ⟨RX7, "which", "(IIIII)I"⟩
abbrev cX7_judged : ByteArray := prog_9_method_89_code
def yX7_judged : MethodName := ⟨RX7, "judged", "(IIII)I"⟩
abbrev cX7_film : ByteArray := prog_9_method_90_code
def yX7_film : MethodName := ⟨RX7, "film", "(III)I"⟩
abbrev cX7_copy : ByteArray := prog_9_method_91_code
def yX7_copy : MethodName := ⟨RX7, "copy", "(IIIII)I"⟩
def RJ6 : String := "java/lang/Integer"
def TJ6 : u_T := fun k => match k with
  | _ => ("", "", "", false)
def tyJ6 : Nat → FieldType := fun k => match k with
  | _ => .int
abbrev wsJ60 : List Cond := u_ws RJ6 TJ6 0
theorem nmJ6 : ∀ a, a < 0 → ∀ b, b < 0 → a ≠ b → (TJ6 a).2.1 ≠ (TJ6 b).2.1 := by decide +kernel
theorem tyJ6_ok : ∀ k, k < 0 → parseFieldDescriptor (TJ6 k).2.2.1 = some (tyJ6 k) := by decide +kernel
abbrev cJ6_compare_7cf53 : ByteArray := prog_10_method_40_code
def yJ6_compare_7cf53 : MethodName := ⟨RJ6, "compare", "(II)I"⟩
abbrev cJ6_bitCount_0f7a4 : ByteArray := prog_10_method_49_code
def yJ6_bitCount_0f7a4 : MethodName := ⟨RJ6, "bitCount", "(I)I"⟩
def RJ9 : String := "java/lang/Math"
def TJ9 : u_T := fun k => match k with
  | _ => ("", "", "", false)
def tyJ9 : Nat → FieldType := fun k => match k with
  | _ => .int
abbrev wsJ90 : List Cond := u_ws RJ9 TJ9 0
theorem nmJ9 : ∀ a, a < 0 → ∀ b, b < 0 → a ≠ b → (TJ9 a).2.1 ≠ (TJ9 b).2.1 := by decide +kernel
theorem tyJ9_ok : ∀ k, k < 0 → parseFieldDescriptor (TJ9 k).2.2.1 = some (tyJ9 k) := by decide +kernel
abbrev cJ9_abs_0f7a4 : ByteArray := prog_11_method_59_code
def yJ9_abs_0f7a4 : MethodName := ⟨RJ9, "abs", "(I)I"⟩
abbrev cJ9_max_7cf53 : ByteArray := prog_11_method_65_code
def yJ9_max_7cf53 : MethodName := ⟨RJ9, "max", "(II)I"⟩
abbrev cJ9_min_7cf53 : ByteArray := prog_11_method_69_code
def yJ9_min_7cf53 : MethodName := ⟨RJ9, "min", "(II)I"⟩
def RJ10 : String := "java/lang/System"
def TJ10 : u_T := fun k => match k with
  | _ => ("", "", "", false)
def tyJ10 : Nat → FieldType := fun k => match k with
  | _ => .int
abbrev wsJ100 : List Cond := u_ws RJ10 TJ10 0
theorem nmJ10 : ∀ a, a < 0 → ∀ b, b < 0 → a ≠ b → (TJ10 a).2.1 ≠ (TJ10 b).2.1 := by decide +kernel
theorem tyJ10_ok : ∀ k, k < 0 → parseFieldDescriptor (TJ10 k).2.2.1 = some (tyJ10 k) := by decide +kernel
def RJ7 : String := "java/util/Arrays"
def TJ7 : u_T := fun k => match k with
  | _ => ("", "", "", false)
def tyJ7 : Nat → FieldType := fun k => match k with
  | _ => .int
abbrev wsJ70 : List Cond := u_ws RJ7 TJ7 0
theorem nmJ7 : ∀ a, a < 0 → ∀ b, b < 0 → a ≠ b → (TJ7 a).2.1 ≠ (TJ7 b).2.1 := by decide +kernel
theorem tyJ7_ok : ∀ k, k < 0 → parseFieldDescriptor (TJ7 k).2.2.1 = some (tyJ7 k) := by decide +kernel
abbrev cJ7_fill_d0a16 : ByteArray := prog_13_method_101_code
def yJ7_fill_d0a16 : MethodName := ⟨RJ7, "fill", "([JJ)V"⟩
abbrev cJ7_fill_53178 : ByteArray := prog_13_method_103_code
def yJ7_fill_53178 : MethodName := ⟨RJ7, "fill", "([II)V"⟩
def RL : String := "GraveNewsLaw"
abbrev cL_law : ByteArray := code
def yL_law : MethodName := ⟨RL, "law", "([I)Z"⟩
abbrev vwCl : List vw_C := [(RX0, TX0, 5), (RX1, TX1, 7), (RX2, TX2, 6), (RX3, TX3, 13), (RX4, TX4, 4), (RX5, TX5, 3), (RX6, TX6, 11), (RX7, TX7, 33)]
def lw_T : List Cond := lw_tbl.filter goodWord
theorem lw_Tm {w : Cond} (h : w ∈ lw_tbl) (g : goodWord w = true) : w ∈ lw_T := List.mem_filter.mpr ⟨h, g⟩
theorem lw_Tg : GoodIn lw_T lw_T := fun w h => ⟨h, good_of_word (List.mem_filter.mp h).2⟩
theorem lw_Ts {args : Array Value} {s : State} (h : ∀ w ∈ lw_tbl, w.before args s = true) : ∀ w ∈ lw_T, w.before args s = true := fun w q => h w (List.mem_filter.mp q).1
