-- ===== PART A: goes FIRST, ahead of the names: the tables' words, and 'selects' of the private methods out of them =====
/-- a private method of a class that the tables say can be made, by its rows of tables_1 -/
def lw_okq (q : MethodName × Nat) : Prop := (q.1.cls ≠ "java/lang/invoke/MethodHandle" ∧ q.1.cls ≠ "java/lang/invoke/VarHandle") ∧ Cond.instantiable q.1.cls q.2 ∈ tables_1 ∧ Cond.privateMethod q.1 ∈ tables_1 ∧ Cond.instanceMethod q.1 ∈ tables_1
theorem lw_p0 : lw_okq (⟨"java/lang/Throwable", "fillInStackTrace", "(I)Ljava/lang/Throwable;"⟩, 6) := ⟨⟨by decide +kernel, by decide +kernel⟩, List.mem_of_getElem? (i := 248) (by decide +kernel), List.mem_of_getElem? (i := 246) (by decide +kernel), List.mem_of_getElem? (i := 247) (by decide +kernel)⟩
theorem lw_p1 : lw_okq (⟨"Codewordcable$Book", "addFind", "(I)V"⟩, 7) := ⟨⟨by decide +kernel, by decide +kernel⟩, List.mem_of_getElem? (i := 29) (by decide +kernel), List.mem_of_getElem? (i := 381) (by decide +kernel), List.mem_of_getElem? (i := 382) (by decide +kernel)⟩
theorem lw_p2 : lw_okq (⟨"Codewordcable", "countAtCable", "(I)I"⟩, 10) := ⟨⟨by decide +kernel, by decide +kernel⟩, List.mem_of_getElem? (i := 21) (by decide +kernel), List.mem_of_getElem? (i := 503) (by decide +kernel), List.mem_of_getElem? (i := 504) (by decide +kernel)⟩
theorem lw_p3 : lw_okq (⟨"Codewordcable", "messageAt", "(I)LCodewordcable$Message;"⟩, 10) := ⟨⟨by decide +kernel, by decide +kernel⟩, List.mem_of_getElem? (i := 21) (by decide +kernel), List.mem_of_getElem? (i := 507) (by decide +kernel), List.mem_of_getElem? (i := 508) (by decide +kernel)⟩
theorem lw_p4 : lw_okq (⟨"Codewordcable", "rulesAt", "(LCodewordcable$Office;)LCodewordcable$Rules;"⟩, 10) := ⟨⟨by decide +kernel, by decide +kernel⟩, List.mem_of_getElem? (i := 21) (by decide +kernel), List.mem_of_getElem? (i := 553) (by decide +kernel), List.mem_of_getElem? (i := 554) (by decide +kernel)⟩
theorem lw_p5 : lw_okq (⟨"Codewordcable$Packer", "plainCost", "(LCodewordcable$Draft;LCodewordcable$Rules;)I"⟩, 7) := ⟨⟨by decide +kernel, by decide +kernel⟩, List.mem_of_getElem? (i := 59) (by decide +kernel), List.mem_of_getElem? (i := 587) (by decide +kernel), List.mem_of_getElem? (i := 588) (by decide +kernel)⟩
theorem lw_p6 : lw_okq (⟨"Codewordcable$Packer", "findCodes", "(LCodewordcable$Draft;ILCodewordcable$Rules;)V"⟩, 7) := ⟨⟨by decide +kernel, by decide +kernel⟩, List.mem_of_getElem? (i := 59) (by decide +kernel), List.mem_of_getElem? (i := 603) (by decide +kernel), List.mem_of_getElem? (i := 604) (by decide +kernel)⟩
theorem lw_p7 : lw_okq (⟨"Codewordcable$Book", "standsAt", "(ILCodewordcable$Draft;II)Z"⟩, 7) := ⟨⟨by decide +kernel, by decide +kernel⟩, List.mem_of_getElem? (i := 29) (by decide +kernel), List.mem_of_getElem? (i := 614) (by decide +kernel), List.mem_of_getElem? (i := 615) (by decide +kernel)⟩
theorem lw_p8 : lw_okq (⟨"Codewordcable$Packer", "findLeast", "(LCodewordcable$Draft;LCodewordcable$Rules;)V"⟩, 7) := ⟨⟨by decide +kernel, by decide +kernel⟩, List.mem_of_getElem? (i := 59) (by decide +kernel), List.mem_of_getElem? (i := 630) (by decide +kernel), List.mem_of_getElem? (i := 631) (by decide +kernel)⟩
theorem lw_p9 : lw_okq (⟨"Codewordcable$Packer", "setLeast", "(III)V"⟩, 7) := ⟨⟨by decide +kernel, by decide +kernel⟩, List.mem_of_getElem? (i := 59) (by decide +kernel), List.mem_of_getElem? (i := 635) (by decide +kernel), List.mem_of_getElem? (i := 636) (by decide +kernel)⟩
theorem lw_p10 : lw_okq (⟨"Codewordcable$Packer", "leastFrom", "(II)I"⟩, 7) := ⟨⟨by decide +kernel, by decide +kernel⟩, List.mem_of_getElem? (i := 59) (by decide +kernel), List.mem_of_getElem? (i := 640) (by decide +kernel), List.mem_of_getElem? (i := 641) (by decide +kernel)⟩
theorem lw_p11 : lw_okq (⟨"Codewordcable$Packer", "codeFor", "(II)I"⟩, 7) := ⟨⟨by decide +kernel, by decide +kernel⟩, List.mem_of_getElem? (i := 59) (by decide +kernel), List.mem_of_getElem? (i := 644) (by decide +kernel), List.mem_of_getElem? (i := 645) (by decide +kernel)⟩
theorem lw_p12 : lw_okq (⟨"Codewordcable$Packer", "chooseCount", "(LCodewordcable$Draft;LCodewordcable$Rules;)V"⟩, 7) := ⟨⟨by decide +kernel, by decide +kernel⟩, List.mem_of_getElem? (i := 59) (by decide +kernel), List.mem_of_getElem? (i := 649) (by decide +kernel), List.mem_of_getElem? (i := 650) (by decide +kernel)⟩
theorem lw_p13 : lw_okq (⟨"Codewordcable$Packer", "cut", "(LCodewordcable$Draft;LCodewordcable$Rules;)V"⟩, 7) := ⟨⟨by decide +kernel, by decide +kernel⟩, List.mem_of_getElem? (i := 59) (by decide +kernel), List.mem_of_getElem? (i := 653) (by decide +kernel), List.mem_of_getElem? (i := 654) (by decide +kernel)⟩
theorem lw_p14 : lw_okq (⟨"Codewordcable$Packer", "longestCode", "(II)I"⟩, 7) := ⟨⟨by decide +kernel, by decide +kernel⟩, List.mem_of_getElem? (i := 59) (by decide +kernel), List.mem_of_getElem? (i := 657) (by decide +kernel), List.mem_of_getElem? (i := 658) (by decide +kernel)⟩
theorem lw_p15 : lw_okq (⟨"Codewordcable$Packer", "addWord", "(I)V"⟩, 7) := ⟨⟨by decide +kernel, by decide +kernel⟩, List.mem_of_getElem? (i := 59) (by decide +kernel), List.mem_of_getElem? (i := 661) (by decide +kernel), List.mem_of_getElem? (i := 662) (by decide +kernel)⟩
def lw_privs_1 : List (MethodName × Nat) := [(⟨"java/lang/Throwable", "fillInStackTrace", "(I)Ljava/lang/Throwable;"⟩, 6), (⟨"Codewordcable$Book", "addFind", "(I)V"⟩, 7), (⟨"Codewordcable", "countAtCable", "(I)I"⟩, 10), (⟨"Codewordcable", "messageAt", "(I)LCodewordcable$Message;"⟩, 10), (⟨"Codewordcable", "rulesAt", "(LCodewordcable$Office;)LCodewordcable$Rules;"⟩, 10), (⟨"Codewordcable$Packer", "plainCost", "(LCodewordcable$Draft;LCodewordcable$Rules;)I"⟩, 7), (⟨"Codewordcable$Packer", "findCodes", "(LCodewordcable$Draft;ILCodewordcable$Rules;)V"⟩, 7), (⟨"Codewordcable$Book", "standsAt", "(ILCodewordcable$Draft;II)Z"⟩, 7), (⟨"Codewordcable$Packer", "findLeast", "(LCodewordcable$Draft;LCodewordcable$Rules;)V"⟩, 7), (⟨"Codewordcable$Packer", "setLeast", "(III)V"⟩, 7), (⟨"Codewordcable$Packer", "leastFrom", "(II)I"⟩, 7), (⟨"Codewordcable$Packer", "codeFor", "(II)I"⟩, 7), (⟨"Codewordcable$Packer", "chooseCount", "(LCodewordcable$Draft;LCodewordcable$Rules;)V"⟩, 7), (⟨"Codewordcable$Packer", "cut", "(LCodewordcable$Draft;LCodewordcable$Rules;)V"⟩, 7), (⟨"Codewordcable$Packer", "longestCode", "(II)I"⟩, 7), (⟨"Codewordcable$Packer", "addWord", "(I)V"⟩, 7)]
theorem lw_r1 : ∀ q ∈ lw_privs_1, lw_okq q := List.forall_mem_cons.mpr ⟨lw_p0, List.forall_mem_cons.mpr ⟨lw_p1, List.forall_mem_cons.mpr ⟨lw_p2, List.forall_mem_cons.mpr ⟨lw_p3, List.forall_mem_cons.mpr ⟨lw_p4, List.forall_mem_cons.mpr ⟨lw_p5, List.forall_mem_cons.mpr ⟨lw_p6, List.forall_mem_cons.mpr ⟨lw_p7, List.forall_mem_cons.mpr ⟨lw_p8, List.forall_mem_cons.mpr ⟨lw_p9, List.forall_mem_cons.mpr ⟨lw_p10, List.forall_mem_cons.mpr ⟨lw_p11, List.forall_mem_cons.mpr ⟨lw_p12, List.forall_mem_cons.mpr ⟨lw_p13, List.forall_mem_cons.mpr ⟨lw_p14, List.forall_mem_cons.mpr ⟨lw_p15, fun _ h => absurd h List.not_mem_nil⟩⟩⟩⟩⟩⟩⟩⟩⟩⟩⟩⟩⟩⟩⟩⟩
theorem lw_p16 : lw_okq (⟨"Codewordcable$Net", "findCosts", "(I)V"⟩, 7) := ⟨⟨by decide +kernel, by decide +kernel⟩, List.mem_of_getElem? (i := 105) (by decide +kernel), List.mem_of_getElem? (i := 680) (by decide +kernel), List.mem_of_getElem? (i := 681) (by decide +kernel)⟩
theorem lw_p17 : lw_okq (⟨"Codewordcable$Net", "setCost", "(II)V"⟩, 7) := ⟨⟨by decide +kernel, by decide +kernel⟩, List.mem_of_getElem? (i := 105) (by decide +kernel), List.mem_of_getElem? (i := 686) (by decide +kernel), List.mem_of_getElem? (i := 687) (by decide +kernel)⟩
theorem lw_p18 : lw_okq (⟨"Codewordcable$Net", "lowerCost", "(ILCodewordcable$Cable;)V"⟩, 7) := ⟨⟨by decide +kernel, by decide +kernel⟩, List.mem_of_getElem? (i := 105) (by decide +kernel), List.mem_of_getElem? (i := 691) (by decide +kernel), List.mem_of_getElem? (i := 692) (by decide +kernel)⟩
theorem lw_p19 : lw_okq (⟨"Codewordcable$Net", "costFrom", "(I)I"⟩, 7) := ⟨⟨by decide +kernel, by decide +kernel⟩, List.mem_of_getElem? (i := 105) (by decide +kernel), List.mem_of_getElem? (i := 699) (by decide +kernel), List.mem_of_getElem? (i := 700) (by decide +kernel)⟩
theorem lw_p20 : lw_okq (⟨"Codewordcable$Net", "nextCable", "(I)I"⟩, 7) := ⟨⟨by decide +kernel, by decide +kernel⟩, List.mem_of_getElem? (i := 105) (by decide +kernel), List.mem_of_getElem? (i := 706) (by decide +kernel), List.mem_of_getElem? (i := 707) (by decide +kernel)⟩
theorem lw_p21 : lw_okq (⟨"Codewordcable$Message", "priceAt", "(I)I"⟩, 13) := ⟨⟨by decide +kernel, by decide +kernel⟩, List.mem_of_getElem? (i := 714) (by decide +kernel), List.mem_of_getElem? (i := 752) (by decide +kernel), List.mem_of_getElem? (i := 753) (by decide +kernel)⟩
theorem lw_p22 : lw_okq (⟨"Codewordcable", "settle", "(LCodewordcable$Message;)V"⟩, 10) := ⟨⟨by decide +kernel, by decide +kernel⟩, List.mem_of_getElem? (i := 21) (by decide +kernel), List.mem_of_getElem? (i := 809) (by decide +kernel), List.mem_of_getElem? (i := 810) (by decide +kernel)⟩
theorem lw_p23 : lw_okq (⟨"Codewordcable", "comeTo", "(LCodewordcable$Message;I)V"⟩, 10) := ⟨⟨by decide +kernel, by decide +kernel⟩, List.mem_of_getElem? (i := 21) (by decide +kernel), List.mem_of_getElem? (i := 814) (by decide +kernel), List.mem_of_getElem? (i := 815) (by decide +kernel)⟩
theorem lw_p24 : lw_okq (⟨"Codewordcable", "isAnyUnderway", "()Z"⟩, 10) := ⟨⟨by decide +kernel, by decide +kernel⟩, List.mem_of_getElem? (i := 21) (by decide +kernel), List.mem_of_getElem? (i := 857) (by decide +kernel), List.mem_of_getElem? (i := 858) (by decide +kernel)⟩
theorem lw_p25 : lw_okq (⟨"Codewordcable", "carryMinute", "()V"⟩, 10) := ⟨⟨by decide +kernel, by decide +kernel⟩, List.mem_of_getElem? (i := 21) (by decide +kernel), List.mem_of_getElem? (i := 861) (by decide +kernel), List.mem_of_getElem? (i := 862) (by decide +kernel)⟩
theorem lw_p26 : lw_okq (⟨"Codewordcable", "moveOn", "(LCodewordcable$Message;LCodewordcable$Cable;)V"⟩, 10) := ⟨⟨by decide +kernel, by decide +kernel⟩, List.mem_of_getElem? (i := 21) (by decide +kernel), List.mem_of_getElem? (i := 872) (by decide +kernel), List.mem_of_getElem? (i := 873) (by decide +kernel)⟩
theorem lw_p27 : lw_okq (⟨"Codewordcable", "shareIn", "(LCodewordcable$Message;I)I"⟩, 10) := ⟨⟨by decide +kernel, by decide +kernel⟩, List.mem_of_getElem? (i := 21) (by decide +kernel), List.mem_of_getElem? (i := 949) (by decide +kernel), List.mem_of_getElem? (i := 950) (by decide +kernel)⟩
theorem lw_p28 : lw_okq (⟨"CodewordcableModel", "asks", "(Z)Z"⟩, 49) := ⟨⟨by decide +kernel, by decide +kernel⟩, List.mem_of_getElem? (i := 953) (by decide +kernel), List.mem_of_getElem? (i := 1118) (by decide +kernel), List.mem_of_getElem? (i := 1119) (by decide +kernel)⟩
theorem lw_p29 : lw_okq (⟨"CodewordcableModel", "fails", "(I)I"⟩, 49) := ⟨⟨by decide +kernel, by decide +kernel⟩, List.mem_of_getElem? (i := 953) (by decide +kernel), List.mem_of_getElem? (i := 1122) (by decide +kernel), List.mem_of_getElem? (i := 1123) (by decide +kernel)⟩
theorem lw_p30 : lw_okq (⟨"CodewordcableModel", "isIdea", "(I)Z"⟩, 49) := ⟨⟨by decide +kernel, by decide +kernel⟩, List.mem_of_getElem? (i := 953) (by decide +kernel), List.mem_of_getElem? (i := 1130) (by decide +kernel), List.mem_of_getElem? (i := 1131) (by decide +kernel)⟩
theorem lw_p31 : lw_okq (⟨"CodewordcableModel", "isIdeaOrNone", "(I)Z"⟩, 49) := ⟨⟨by decide +kernel, by decide +kernel⟩, List.mem_of_getElem? (i := 953) (by decide +kernel), List.mem_of_getElem? (i := 1134) (by decide +kernel), List.mem_of_getElem? (i := 1135) (by decide +kernel)⟩
def lw_privs_2 : List (MethodName × Nat) := [(⟨"Codewordcable$Net", "findCosts", "(I)V"⟩, 7), (⟨"Codewordcable$Net", "setCost", "(II)V"⟩, 7), (⟨"Codewordcable$Net", "lowerCost", "(ILCodewordcable$Cable;)V"⟩, 7), (⟨"Codewordcable$Net", "costFrom", "(I)I"⟩, 7), (⟨"Codewordcable$Net", "nextCable", "(I)I"⟩, 7), (⟨"Codewordcable$Message", "priceAt", "(I)I"⟩, 13), (⟨"Codewordcable", "settle", "(LCodewordcable$Message;)V"⟩, 10), (⟨"Codewordcable", "comeTo", "(LCodewordcable$Message;I)V"⟩, 10), (⟨"Codewordcable", "isAnyUnderway", "()Z"⟩, 10), (⟨"Codewordcable", "carryMinute", "()V"⟩, 10), (⟨"Codewordcable", "moveOn", "(LCodewordcable$Message;LCodewordcable$Cable;)V"⟩, 10), (⟨"Codewordcable", "shareIn", "(LCodewordcable$Message;I)I"⟩, 10), (⟨"CodewordcableModel", "asks", "(Z)Z"⟩, 49), (⟨"CodewordcableModel", "fails", "(I)I"⟩, 49), (⟨"CodewordcableModel", "isIdea", "(I)Z"⟩, 49), (⟨"CodewordcableModel", "isIdeaOrNone", "(I)Z"⟩, 49)]
theorem lw_r2 : ∀ q ∈ lw_privs_2, lw_okq q := List.forall_mem_cons.mpr ⟨lw_p16, List.forall_mem_cons.mpr ⟨lw_p17, List.forall_mem_cons.mpr ⟨lw_p18, List.forall_mem_cons.mpr ⟨lw_p19, List.forall_mem_cons.mpr ⟨lw_p20, List.forall_mem_cons.mpr ⟨lw_p21, List.forall_mem_cons.mpr ⟨lw_p22, List.forall_mem_cons.mpr ⟨lw_p23, List.forall_mem_cons.mpr ⟨lw_p24, List.forall_mem_cons.mpr ⟨lw_p25, List.forall_mem_cons.mpr ⟨lw_p26, List.forall_mem_cons.mpr ⟨lw_p27, List.forall_mem_cons.mpr ⟨lw_p28, List.forall_mem_cons.mpr ⟨lw_p29, List.forall_mem_cons.mpr ⟨lw_p30, List.forall_mem_cons.mpr ⟨lw_p31, fun _ h => absurd h List.not_mem_nil⟩⟩⟩⟩⟩⟩⟩⟩⟩⟩⟩⟩⟩⟩⟩⟩
theorem lw_p32 : lw_okq (⟨"CodewordcableModel", "candidatesOf", "(I)I"⟩, 49) := ⟨⟨by decide +kernel, by decide +kernel⟩, List.mem_of_getElem? (i := 953) (by decide +kernel), List.mem_of_getElem? (i := 1152) (by decide +kernel), List.mem_of_getElem? (i := 1153) (by decide +kernel)⟩
theorem lw_p33 : lw_okq (⟨"CodewordcableModel", "candidateAt", "(II)I"⟩, 49) := ⟨⟨by decide +kernel, by decide +kernel⟩, List.mem_of_getElem? (i := 953) (by decide +kernel), List.mem_of_getElem? (i := 1156) (by decide +kernel), List.mem_of_getElem? (i := 1157) (by decide +kernel)⟩
theorem lw_p34 : lw_okq (⟨"CodewordcableModel", "isInBook", "(I)Z"⟩, 49) := ⟨⟨by decide +kernel, by decide +kernel⟩, List.mem_of_getElem? (i := 953) (by decide +kernel), List.mem_of_getElem? (i := 1160) (by decide +kernel), List.mem_of_getElem? (i := 1161) (by decide +kernel)⟩
theorem lw_p35 : lw_okq (⟨"CodewordcableModel", "isOffice", "(I)Z"⟩, 49) := ⟨⟨by decide +kernel, by decide +kernel⟩, List.mem_of_getElem? (i := 953) (by decide +kernel), List.mem_of_getElem? (i := 1179) (by decide +kernel), List.mem_of_getElem? (i := 1180) (by decide +kernel)⟩
theorem lw_p36 : lw_okq (⟨"CodewordcableModel", "isCable", "(I)Z"⟩, 49) := ⟨⟨by decide +kernel, by decide +kernel⟩, List.mem_of_getElem? (i := 953) (by decide +kernel), List.mem_of_getElem? (i := 1187) (by decide +kernel), List.mem_of_getElem? (i := 1188) (by decide +kernel)⟩
theorem lw_p37 : lw_okq (⟨"CodewordcableModel", "cableOf", "(I)I"⟩, 49) := ⟨⟨by decide +kernel, by decide +kernel⟩, List.mem_of_getElem? (i := 953) (by decide +kernel), List.mem_of_getElem? (i := 1191) (by decide +kernel), List.mem_of_getElem? (i := 1192) (by decide +kernel)⟩
theorem lw_p38 : lw_okq (⟨"CodewordcableModel", "rulesAt", "(I)I"⟩, 49) := ⟨⟨by decide +kernel, by decide +kernel⟩, List.mem_of_getElem? (i := 953) (by decide +kernel), List.mem_of_getElem? (i := 1211) (by decide +kernel), List.mem_of_getElem? (i := 1212) (by decide +kernel)⟩
theorem lw_p39 : lw_okq (⟨"CodewordcableModel", "packs", "(IZ)V"⟩, 49) := ⟨⟨by decide +kernel, by decide +kernel⟩, List.mem_of_getElem? (i := 953) (by decide +kernel), List.mem_of_getElem? (i := 1223) (by decide +kernel), List.mem_of_getElem? (i := 1224) (by decide +kernel)⟩
theorem lw_p40 : lw_okq (⟨"CodewordcableModel", "allPlain", "(I)I"⟩, 49) := ⟨⟨by decide +kernel, by decide +kernel⟩, List.mem_of_getElem? (i := 953) (by decide +kernel), List.mem_of_getElem? (i := 1227) (by decide +kernel), List.mem_of_getElem? (i := 1228) (by decide +kernel)⟩
theorem lw_p41 : lw_okq (⟨"CodewordcableModel", "plainAt", "(II)I"⟩, 49) := ⟨⟨by decide +kernel, by decide +kernel⟩, List.mem_of_getElem? (i := 953) (by decide +kernel), List.mem_of_getElem? (i := 1231) (by decide +kernel), List.mem_of_getElem? (i := 1232) (by decide +kernel)⟩
theorem lw_p42 : lw_okq (⟨"CodewordcableModel", "reckons", "(I)V"⟩, 49) := ⟨⟨by decide +kernel, by decide +kernel⟩, List.mem_of_getElem? (i := 953) (by decide +kernel), List.mem_of_getElem? (i := 1238) (by decide +kernel), List.mem_of_getElem? (i := 1239) (by decide +kernel)⟩
theorem lw_p43 : lw_okq (⟨"CodewordcableModel", "entryAt", "(III)I"⟩, 49) := ⟨⟨by decide +kernel, by decide +kernel⟩, List.mem_of_getElem? (i := 953) (by decide +kernel), List.mem_of_getElem? (i := 1243) (by decide +kernel), List.mem_of_getElem? (i := 1244) (by decide +kernel)⟩
theorem lw_p44 : lw_okq (⟨"CodewordcableModel", "sentAs", "(II)I"⟩, 49) := ⟨⟨by decide +kernel, by decide +kernel⟩, List.mem_of_getElem? (i := 953) (by decide +kernel), List.mem_of_getElem? (i := 1247) (by decide +kernel), List.mem_of_getElem? (i := 1248) (by decide +kernel)⟩
theorem lw_p45 : lw_okq (⟨"CodewordcableModel", "cuts", "(II)V"⟩, 49) := ⟨⟨by decide +kernel, by decide +kernel⟩, List.mem_of_getElem? (i := 953) (by decide +kernel), List.mem_of_getElem? (i := 1254) (by decide +kernel), List.mem_of_getElem? (i := 1255) (by decide +kernel)⟩
theorem lw_p46 : lw_okq (⟨"CodewordcableModel", "hasRoute", "(II)Z"⟩, 49) := ⟨⟨by decide +kernel, by decide +kernel⟩, List.mem_of_getElem? (i := 953) (by decide +kernel), List.mem_of_getElem? (i := 1262) (by decide +kernel), List.mem_of_getElem? (i := 1263) (by decide +kernel)⟩
theorem lw_p47 : lw_okq (⟨"CodewordcableModel", "reaches", "(I)V"⟩, 49) := ⟨⟨by decide +kernel, by decide +kernel⟩, List.mem_of_getElem? (i := 953) (by decide +kernel), List.mem_of_getElem? (i := 1266) (by decide +kernel), List.mem_of_getElem? (i := 1267) (by decide +kernel)⟩
def lw_privs_3 : List (MethodName × Nat) := [(⟨"CodewordcableModel", "candidatesOf", "(I)I"⟩, 49), (⟨"CodewordcableModel", "candidateAt", "(II)I"⟩, 49), (⟨"CodewordcableModel", "isInBook", "(I)Z"⟩, 49), (⟨"CodewordcableModel", "isOffice", "(I)Z"⟩, 49), (⟨"CodewordcableModel", "isCable", "(I)Z"⟩, 49), (⟨"CodewordcableModel", "cableOf", "(I)I"⟩, 49), (⟨"CodewordcableModel", "rulesAt", "(I)I"⟩, 49), (⟨"CodewordcableModel", "packs", "(IZ)V"⟩, 49), (⟨"CodewordcableModel", "allPlain", "(I)I"⟩, 49), (⟨"CodewordcableModel", "plainAt", "(II)I"⟩, 49), (⟨"CodewordcableModel", "reckons", "(I)V"⟩, 49), (⟨"CodewordcableModel", "entryAt", "(III)I"⟩, 49), (⟨"CodewordcableModel", "sentAs", "(II)I"⟩, 49), (⟨"CodewordcableModel", "cuts", "(II)V"⟩, 49), (⟨"CodewordcableModel", "hasRoute", "(II)Z"⟩, 49), (⟨"CodewordcableModel", "reaches", "(I)V"⟩, 49)]
theorem lw_r3 : ∀ q ∈ lw_privs_3, lw_okq q := List.forall_mem_cons.mpr ⟨lw_p32, List.forall_mem_cons.mpr ⟨lw_p33, List.forall_mem_cons.mpr ⟨lw_p34, List.forall_mem_cons.mpr ⟨lw_p35, List.forall_mem_cons.mpr ⟨lw_p36, List.forall_mem_cons.mpr ⟨lw_p37, List.forall_mem_cons.mpr ⟨lw_p38, List.forall_mem_cons.mpr ⟨lw_p39, List.forall_mem_cons.mpr ⟨lw_p40, List.forall_mem_cons.mpr ⟨lw_p41, List.forall_mem_cons.mpr ⟨lw_p42, List.forall_mem_cons.mpr ⟨lw_p43, List.forall_mem_cons.mpr ⟨lw_p44, List.forall_mem_cons.mpr ⟨lw_p45, List.forall_mem_cons.mpr ⟨lw_p46, List.forall_mem_cons.mpr ⟨lw_p47, fun _ h => absurd h List.not_mem_nil⟩⟩⟩⟩⟩⟩⟩⟩⟩⟩⟩⟩⟩⟩⟩⟩
theorem lw_p48 : lw_okq (⟨"CodewordcableModel", "end", "(II)I"⟩, 49) := ⟨⟨by decide +kernel, by decide +kernel⟩, List.mem_of_getElem? (i := 953) (by decide +kernel), List.mem_of_getElem? (i := 1270) (by decide +kernel), List.mem_of_getElem? (i := 1271) (by decide +kernel)⟩
theorem lw_p49 : lw_okq (⟨"CodewordcableModel", "comes", "(II)V"⟩, 49) := ⟨⟨by decide +kernel, by decide +kernel⟩, List.mem_of_getElem? (i := 953) (by decide +kernel), List.mem_of_getElem? (i := 1274) (by decide +kernel), List.mem_of_getElem? (i := 1275) (by decide +kernel)⟩
theorem lw_p50 : lw_okq (⟨"CodewordcableModel", "isMessage", "(I)Z"⟩, 49) := ⟨⟨by decide +kernel, by decide +kernel⟩, List.mem_of_getElem? (i := 953) (by decide +kernel), List.mem_of_getElem? (i := 1282) (by decide +kernel), List.mem_of_getElem? (i := 1283) (by decide +kernel)⟩
theorem lw_p51 : lw_okq (⟨"CodewordcableModel", "isCodeAt", "(II)Z"⟩, 49) := ⟨⟨by decide +kernel, by decide +kernel⟩, List.mem_of_getElem? (i := 953) (by decide +kernel), List.mem_of_getElem? (i := 1286) (by decide +kernel), List.mem_of_getElem? (i := 1287) (by decide +kernel)⟩
theorem lw_p52 : lw_okq (⟨"CodewordcableModel", "carries", "()V"⟩, 49) := ⟨⟨by decide +kernel, by decide +kernel⟩, List.mem_of_getElem? (i := 953) (by decide +kernel), List.mem_of_getElem? (i := 1294) (by decide +kernel), List.mem_of_getElem? (i := 1295) (by decide +kernel)⟩
theorem lw_p53 : lw_okq (⟨"CodewordcableModel", "carry", "(II)I"⟩, 49) := ⟨⟨by decide +kernel, by decide +kernel⟩, List.mem_of_getElem? (i := 953) (by decide +kernel), List.mem_of_getElem? (i := 1298) (by decide +kernel), List.mem_of_getElem? (i := 1299) (by decide +kernel)⟩
theorem lw_p54 : lw_okq (⟨"CodewordcableModel", "behind", "(I)I"⟩, 49) := ⟨⟨by decide +kernel, by decide +kernel⟩, List.mem_of_getElem? (i := 953) (by decide +kernel), List.mem_of_getElem? (i := 1302) (by decide +kernel), List.mem_of_getElem? (i := 1303) (by decide +kernel)⟩
theorem lw_p55 : lw_okq (⟨"CodewordcableModel", "readAs", "(II)I"⟩, 49) := ⟨⟨by decide +kernel, by decide +kernel⟩, List.mem_of_getElem? (i := 953) (by decide +kernel), List.mem_of_getElem? (i := 1322) (by decide +kernel), List.mem_of_getElem? (i := 1323) (by decide +kernel)⟩
def lw_privs_4 : List (MethodName × Nat) := [(⟨"CodewordcableModel", "end", "(II)I"⟩, 49), (⟨"CodewordcableModel", "comes", "(II)V"⟩, 49), (⟨"CodewordcableModel", "isMessage", "(I)Z"⟩, 49), (⟨"CodewordcableModel", "isCodeAt", "(II)Z"⟩, 49), (⟨"CodewordcableModel", "carries", "()V"⟩, 49), (⟨"CodewordcableModel", "carry", "(II)I"⟩, 49), (⟨"CodewordcableModel", "behind", "(I)I"⟩, 49), (⟨"CodewordcableModel", "readAs", "(II)I"⟩, 49)]
theorem lw_r4 : ∀ q ∈ lw_privs_4, lw_okq q := List.forall_mem_cons.mpr ⟨lw_p48, List.forall_mem_cons.mpr ⟨lw_p49, List.forall_mem_cons.mpr ⟨lw_p50, List.forall_mem_cons.mpr ⟨lw_p51, List.forall_mem_cons.mpr ⟨lw_p52, List.forall_mem_cons.mpr ⟨lw_p53, List.forall_mem_cons.mpr ⟨lw_p54, List.forall_mem_cons.mpr ⟨lw_p55, fun _ h => absurd h List.not_mem_nil⟩⟩⟩⟩⟩⟩⟩⟩
def lw_privs : List (MethodName × Nat) := lw_privs_1 ++ (lw_privs_2 ++ (lw_privs_3 ++ (lw_privs_4)))
def lw_tbl : List Cond := k2_sels lw_privs ++ tables_1
theorem lw_privs_ok : ∀ q ∈ lw_privs, lw_okq q := by
  show ∀ q ∈ lw_privs_1 ++ (lw_privs_2 ++ (lw_privs_3 ++ (lw_privs_4))), lw_okq q
  exact List.forall_mem_append.mpr ⟨lw_r1, List.forall_mem_append.mpr ⟨lw_r2, List.forall_mem_append.mpr ⟨lw_r3, lw_r4⟩⟩⟩
-- ===== end of PART A; then your names; then what follows =====
def RX0 : String := "Codewordcable$Book"
def TX0 : u_T := fun k => match k with
  | 0 => ("Codewordcable$Book", "letters", "[I", true)
  | 1 => ("Codewordcable$Book", "codes", "[I", true)
  | 2 => ("Codewordcable$Book", "phrases", "[I", true)
  | 3 => ("Codewordcable$Book", "finds", "[I", true)
  | 4 => ("Codewordcable$Book", "ideaCount", "I", false)
  | 5 => ("Codewordcable$Book", "entryCount", "I", false)
  | _ => ("Codewordcable$Book", "findCount", "I", false)
def tyX0 : Nat → FieldType := fun k => match k with
  | 0 => .array .int
  | 1 => .array .int
  | 2 => .array .int
  | 3 => .array .int
  | 4 => .int
  | 5 => .int
  | _ => .int
theorem nmX0 : ∀ a, a < 7 → ∀ b, b < 7 → a ≠ b → (TX0 a).2.1 ≠ (TX0 b).2.1 := by decide +kernel
theorem tyX0_ok : ∀ k, k < 7 → parseFieldDescriptor (TX0 k).2.2.1 = some (tyX0 k) := by decide +kernel
abbrev cX0_init : ByteArray := prog_2_method_1_code
def yX0_init : MethodName := ⟨RX0, "<init>", "()V"⟩
abbrev cX0_addIdea : ByteArray := prog_2_method_2_code
def yX0_addIdea : MethodName := ⟨RX0, "addIdea", "(I)I"⟩
abbrev cX0_hasIdea : ByteArray := prog_2_method_3_code
def yX0_hasIdea : MethodName := ⟨RX0, "hasIdea", "(I)Z"⟩
abbrev cX0_hasIdeaOrNone : ByteArray := prog_2_method_4_code
def yX0_hasIdeaOrNone : MethodName := ⟨RX0, "hasIdeaOrNone", "(I)Z"⟩
abbrev cX0_lettersOf : ByteArray := prog_2_method_5_code
def yX0_lettersOf : MethodName := ⟨RX0, "lettersOf", "(I)I"⟩
abbrev cX0_hasEntry : ByteArray := prog_2_method_6_code
def yX0_hasEntry : MethodName := ⟨RX0, "hasEntry", "(I)Z"⟩
abbrev cX0_codeOf : ByteArray := prog_2_method_7_code
def yX0_codeOf : MethodName := ⟨RX0, "codeOf", "(I)I"⟩
abbrev cX0_ideaIn : ByteArray := prog_2_method_8_code
def yX0_ideaIn : MethodName := ⟨RX0, "ideaIn", "(II)I"⟩
abbrev cX0_phraseLength : ByteArray := prog_2_method_9_code
def yX0_phraseLength : MethodName := ⟨RX0, "phraseLength", "(I)I"⟩
abbrev cX0_hasPhrase : ByteArray := prog_2_method_10_code
def yX0_hasPhrase : MethodName := ⟨RX0, "hasPhrase", "(IIII)Z"⟩
abbrev cX0_hasCodeNear : ByteArray := prog_2_method_11_code
def yX0_hasCodeNear : MethodName := ⟨RX0, "hasCodeNear", "(I)Z"⟩
abbrev cX0_addEntry : ByteArray := prog_2_method_12_code
def yX0_addEntry : MethodName := ⟨RX0, "addEntry", "(IIIII)I"⟩
abbrev cX0_entryFor : ByteArray := prog_2_method_13_code
def yX0_entryFor : MethodName := ⟨RX0, "entryFor", "(LCodewordcable$Draft;II)I"⟩
abbrev cX0_standsAt : ByteArray := prog_2_method_14_code
def yX0_standsAt : MethodName := ⟨RX0, "standsAt", "(ILCodewordcable$Draft;II)Z"⟩
abbrev cX0_shifted : ByteArray := prog_2_method_15_code
def yX0_shifted : MethodName := ⟨RX0, "shifted", "(II)I"⟩
abbrev cX0_search : ByteArray := prog_2_method_16_code
def yX0_search : MethodName := ⟨RX0, "search", "(I)V"⟩
abbrev cX0_addFind : ByteArray := prog_2_method_17_code
def yX0_addFind : MethodName := ⟨RX0, "addFind", "(I)V"⟩
abbrev cX0_findAt : ByteArray := prog_2_method_18_code
def yX0_findAt : MethodName := ⟨RX0, "findAt", "(I)I"⟩
abbrev cX0_onlyFind : ByteArray := prog_2_method_19_code
def yX0_onlyFind : MethodName := ⟨RX0, "onlyFind", "(I)I"⟩
def RX1 : String := "Codewordcable$Cable"
def TX1 : u_T := fun k => match k with
  | 0 => ("Codewordcable$Cable", "administration", "I", true)
  | 1 => ("Codewordcable$Cable", "other", "I", true)
  | 2 => ("Codewordcable$Cable", "rate", "I", true)
  | 3 => ("Codewordcable$Cable", "speed", "I", true)
  | 4 => ("Codewordcable$Cable", "isBroken", "Z", false)
  | _ => ("Codewordcable$Cable", "room", "I", false)
def tyX1 : Nat → FieldType := fun k => match k with
  | 0 => .int
  | 1 => .int
  | 2 => .int
  | 3 => .int
  | 4 => .boolean
  | _ => .int
theorem nmX1 : ∀ a, a < 6 → ∀ b, b < 6 → a ≠ b → (TX1 a).2.1 ≠ (TX1 b).2.1 := by decide +kernel
theorem tyX1_ok : ∀ k, k < 6 → parseFieldDescriptor (TX1 k).2.2.1 = some (tyX1 k) := by decide +kernel
abbrev cX1_init : ByteArray := prog_3_method_1_code
def yX1_init : MethodName := ⟨RX1, "<init>", "(IIII)V"⟩
abbrev cX1_touches : ByteArray := prog_3_method_2_code
def yX1_touches : MethodName := ⟨RX1, "touches", "(I)Z"⟩
abbrev cX1_otherEnd : ByteArray := prog_3_method_3_code
def yX1_otherEnd : MethodName := ⟨RX1, "otherEnd", "(I)I"⟩
def RX2 : String := "Codewordcable$Draft"
def TX2 : u_T := fun k => match k with
  | 0 => ("Codewordcable$Draft", "ideas", "[I", true)
  | _ => ("Codewordcable$Draft", "count", "I", false)
def tyX2 : Nat → FieldType := fun k => match k with
  | 0 => .array .int
  | _ => .int
theorem nmX2 : ∀ a, a < 2 → ∀ b, b < 2 → a ≠ b → (TX2 a).2.1 ≠ (TX2 b).2.1 := by decide +kernel
theorem tyX2_ok : ∀ k, k < 2 → parseFieldDescriptor (TX2 k).2.2.1 = some (tyX2 k) := by decide +kernel
abbrev cX2_init : ByteArray := prog_4_method_1_code
def yX2_init : MethodName := ⟨RX2, "<init>", "()V"⟩
abbrev cX2_add : ByteArray := prog_4_method_2_code
def yX2_add : MethodName := ⟨RX2, "add", "(I)Z"⟩
abbrev cX2_ideaAt : ByteArray := prog_4_method_3_code
def yX2_ideaAt : MethodName := ⟨RX2, "ideaAt", "(I)I"⟩
def RX3 : String := "Codewordcable$Message"
def TX3 : u_T := fun k => match k with
  | 0 => ("Codewordcable$Message", "from", "I", true)
  | 1 => ("Codewordcable$Message", "to", "I", true)
  | 2 => ("Codewordcable$Message", "kind", "I", true)
  | 3 => ("Codewordcable$Message", "paid", "I", true)
  | 4 => ("Codewordcable$Message", "price", "I", true)
  | 5 => ("Codewordcable$Message", "hasCode", "Z", true)
  | 6 => ("Codewordcable$Message", "sent", "[I", true)
  | 7 => ("Codewordcable$Message", "now", "[I", true)
  | 8 => ("Codewordcable$Message", "route", "[I", true)
  | 9 => ("Codewordcable$Message", "state", "I", false)
  | 10 => ("Codewordcable$Message", "at", "I", false)
  | 11 => ("Codewordcable$Message", "leg", "I", false)
  | _ => ("Codewordcable$Message", "left", "I", false)
def tyX3 : Nat → FieldType := fun k => match k with
  | 0 => .int
  | 1 => .int
  | 2 => .int
  | 3 => .int
  | 4 => .int
  | 5 => .boolean
  | 6 => .array .int
  | 7 => .array .int
  | 8 => .array .int
  | 9 => .int
  | 10 => .int
  | 11 => .int
  | _ => .int
theorem nmX3 : ∀ a, a < 13 → ∀ b, b < 13 → a ≠ b → (TX3 a).2.1 ≠ (TX3 b).2.1 := by decide +kernel
theorem tyX3_ok : ∀ k, k < 13 → parseFieldDescriptor (TX3 k).2.2.1 = some (tyX3 k) := by decide +kernel
abbrev cX3_init : ByteArray := prog_5_method_1_code
def yX3_init : MethodName := ⟨RX3, "<init>", "(IIILCodewordcable$Packer;LCodewordcable$Net;)V"⟩
abbrev cX3_priceAt : ByteArray := prog_5_method_2_code
def yX3_priceAt : MethodName := ⟨RX3, "priceAt", "(I)I"⟩
abbrev cX3_hasWord : ByteArray := prog_5_method_3_code
def yX3_hasWord : MethodName := ⟨RX3, "hasWord", "(I)Z"⟩
abbrev cX3_wordSent : ByteArray := prog_5_method_4_code
def yX3_wordSent : MethodName := ⟨RX3, "wordSent", "(I)I"⟩
abbrev cX3_wordNow : ByteArray := prog_5_method_5_code
def yX3_wordNow : MethodName := ⟨RX3, "wordNow", "(I)I"⟩
abbrev cX3_change : ByteArray := prog_5_method_6_code
def yX3_change : MethodName := ⟨RX3, "change", "(II)V"⟩
abbrev cX3_cableNow : ByteArray := prog_5_method_7_code
def yX3_cableNow : MethodName := ⟨RX3, "cableNow", "()I"⟩
def RX4 : String := "Codewordcable$Net"
def TX4 : u_T := fun k => match k with
  | 0 => ("Codewordcable$Net", "offices", "[LCodewordcable$Office;", true)
  | 1 => ("Codewordcable$Net", "cables", "[LCodewordcable$Cable;", true)
  | 2 => ("Codewordcable$Net", "costs", "[I", true)
  | 3 => ("Codewordcable$Net", "route", "[I", true)
  | 4 => ("Codewordcable$Net", "officeCount", "I", false)
  | 5 => ("Codewordcable$Net", "cableCount", "I", false)
  | _ => ("Codewordcable$Net", "routeLength", "I", false)
def tyX4 : Nat → FieldType := fun k => match k with
  | 0 => .array (.object "Codewordcable$Office")
  | 1 => .array (.object "Codewordcable$Cable")
  | 2 => .array .int
  | 3 => .array .int
  | 4 => .int
  | 5 => .int
  | _ => .int
theorem nmX4 : ∀ a, a < 7 → ∀ b, b < 7 → a ≠ b → (TX4 a).2.1 ≠ (TX4 b).2.1 := by decide +kernel
theorem tyX4_ok : ∀ k, k < 7 → parseFieldDescriptor (TX4 k).2.2.1 = some (tyX4 k) := by decide +kernel
abbrev cX4_init : ByteArray := prog_6_method_1_code
def yX4_init : MethodName := ⟨RX4, "<init>", "()V"⟩
abbrev cX4_addOffice : ByteArray := prog_6_method_2_code
def yX4_addOffice : MethodName := ⟨RX4, "addOffice", "()I"⟩
abbrev cX4_officeAt : ByteArray := prog_6_method_3_code
def yX4_officeAt : MethodName := ⟨RX4, "officeAt", "(I)LCodewordcable$Office;"⟩
abbrev cX4_addCable : ByteArray := prog_6_method_4_code
def yX4_addCable : MethodName := ⟨RX4, "addCable", "(IIII)I"⟩
abbrev cX4_cableAt : ByteArray := prog_6_method_5_code
def yX4_cableAt : MethodName := ⟨RX4, "cableAt", "(I)LCodewordcable$Cable;"⟩
abbrev cX4_startMinute : ByteArray := prog_6_method_6_code
def yX4_startMinute : MethodName := ⟨RX4, "startMinute", "()V"⟩
abbrev cX4_findRoute : ByteArray := prog_6_method_7_code
def yX4_findRoute : MethodName := ⟨RX4, "findRoute", "(II)Z"⟩
abbrev cX4_costOf : ByteArray := prog_6_method_8_code
def yX4_costOf : MethodName := ⟨RX4, "costOf", "(LCodewordcable$Cable;)I"⟩
abbrev cX4_findCosts : ByteArray := prog_6_method_9_code
def yX4_findCosts : MethodName := ⟨RX4, "findCosts", "(I)V"⟩
abbrev cX4_lowerCost : ByteArray := prog_6_method_10_code
def yX4_lowerCost : MethodName := ⟨RX4, "lowerCost", "(ILCodewordcable$Cable;)V"⟩
abbrev cX4_costFrom : ByteArray := prog_6_method_11_code
def yX4_costFrom : MethodName := ⟨RX4, "costFrom", "(I)I"⟩
abbrev cX4_setCost : ByteArray := prog_6_method_12_code
def yX4_setCost : MethodName := ⟨RX4, "setCost", "(II)V"⟩
abbrev cX4_nextCable : ByteArray := prog_6_method_13_code
def yX4_nextCable : MethodName := ⟨RX4, "nextCable", "(I)I"⟩
abbrev cX4_routeRow : ByteArray := prog_6_method_14_code
def yX4_routeRow : MethodName := ⟨RX4, "routeRow", "()[I"⟩
abbrev cX4_routeRate : ByteArray := prog_6_method_15_code
def yX4_routeRate : MethodName := ⟨RX4, "routeRate", "()I"⟩
def RX5 : String := "Codewordcable$Office"
def TX5 : u_T := fun k => match k with
  | 0 => ("Codewordcable$Office", "reserved", "[Z", true)
  | 1 => ("Codewordcable$Office", "key", "I", false)
  | 2 => ("Codewordcable$Office", "forbidsCode", "Z", false)
  | _ => ("Codewordcable$Office", "balance", "I", false)
def tyX5 : Nat → FieldType := fun k => match k with
  | 0 => .array .boolean
  | 1 => .int
  | 2 => .boolean
  | _ => .int
theorem nmX5 : ∀ a, a < 4 → ∀ b, b < 4 → a ≠ b → (TX5 a).2.1 ≠ (TX5 b).2.1 := by decide +kernel
theorem tyX5_ok : ∀ k, k < 4 → parseFieldDescriptor (TX5 k).2.2.1 = some (tyX5 k) := by decide +kernel
abbrev cX5_init : ByteArray := prog_7_method_1_code
def yX5_init : MethodName := ⟨RX5, "<init>", "()V"⟩
abbrev cX5_reserveRules : ByteArray := prog_7_method_2_code
def yX5_reserveRules : MethodName := ⟨RX5, "reserveRules", "(I)V"⟩
abbrev cX5_reserves : ByteArray := prog_7_method_3_code
def yX5_reserves : MethodName := ⟨RX5, "reserves", "(I)Z"⟩
def RX6 : String := "Codewordcable$Packer"
def TX6 : u_T := fun k => match k with
  | 0 => ("Codewordcable$Packer", "book", "LCodewordcable$Book;", true)
  | 1 => ("Codewordcable$Packer", "codes", "[I", true)
  | 2 => ("Codewordcable$Packer", "least", "[I", true)
  | 3 => ("Codewordcable$Packer", "words", "[I", true)
  | 4 => ("Codewordcable$Packer", "wordCount", "I", false)
  | 5 => ("Codewordcable$Packer", "codeCount", "I", false)
  | _ => ("Codewordcable$Packer", "paid", "I", false)
def tyX6 : Nat → FieldType := fun k => match k with
  | 0 => .object "Codewordcable$Book"
  | 1 => .array .int
  | 2 => .array .int
  | 3 => .array .int
  | 4 => .int
  | 5 => .int
  | _ => .int
theorem nmX6 : ∀ a, a < 7 → ∀ b, b < 7 → a ≠ b → (TX6 a).2.1 ≠ (TX6 b).2.1 := by decide +kernel
theorem tyX6_ok : ∀ k, k < 7 → parseFieldDescriptor (TX6 k).2.2.1 = some (tyX6 k) := by decide +kernel
abbrev cX6_init : ByteArray := prog_8_method_1_code
def yX6_init : MethodName := ⟨RX6, "<init>", "(LCodewordcable$Book;)V"⟩
abbrev cX6_wordRow : ByteArray := prog_8_method_2_code
def yX6_wordRow : MethodName := ⟨RX6, "wordRow", "()[I"⟩
abbrev cX6_fill : ByteArray := prog_8_method_3_code
def yX6_fill : MethodName := ⟨RX6, "fill", "(LCodewordcable$Draft;ILCodewordcable$Rules;Z)V"⟩
abbrev cX6_plainCost : ByteArray := prog_8_method_4_code
def yX6_plainCost : MethodName := ⟨RX6, "plainCost", "(LCodewordcable$Draft;LCodewordcable$Rules;)I"⟩
abbrev cX6_findCodes : ByteArray := prog_8_method_5_code
def yX6_findCodes : MethodName := ⟨RX6, "findCodes", "(LCodewordcable$Draft;ILCodewordcable$Rules;)V"⟩
abbrev cX6_codeFor : ByteArray := prog_8_method_6_code
def yX6_codeFor : MethodName := ⟨RX6, "codeFor", "(II)I"⟩
abbrev cX6_findLeast : ByteArray := prog_8_method_7_code
def yX6_findLeast : MethodName := ⟨RX6, "findLeast", "(LCodewordcable$Draft;LCodewordcable$Rules;)V"⟩
abbrev cX6_leastFrom : ByteArray := prog_8_method_8_code
def yX6_leastFrom : MethodName := ⟨RX6, "leastFrom", "(II)I"⟩
abbrev cX6_setLeast : ByteArray := prog_8_method_9_code
def yX6_setLeast : MethodName := ⟨RX6, "setLeast", "(III)V"⟩
abbrev cX6_chooseCount : ByteArray := prog_8_method_10_code
def yX6_chooseCount : MethodName := ⟨RX6, "chooseCount", "(LCodewordcable$Draft;LCodewordcable$Rules;)V"⟩
abbrev cX6_cut : ByteArray := prog_8_method_11_code
def yX6_cut : MethodName := ⟨RX6, "cut", "(LCodewordcable$Draft;LCodewordcable$Rules;)V"⟩
abbrev cX6_longestCode : ByteArray := prog_8_method_12_code
def yX6_longestCode : MethodName := ⟨RX6, "longestCode", "(II)I"⟩
abbrev cX6_addWord : ByteArray := prog_8_method_13_code
def yX6_addWord : MethodName := ⟨RX6, "addWord", "(I)V"⟩
def RX7 : String := "Codewordcable$Rules"
def TX7 : u_T := fun k => match k with
  | 0 => ("Codewordcable$Rules", "number", "I", true)
  | 1 => ("Codewordcable$Rules", "day", "I", true)
  | 2 => ("Codewordcable$Rules", "plain", "I", true)
  | 3 => ("Codewordcable$Rules", "code", "I", true)
  | _ => ("Codewordcable$Rules", "vowels", "I", true)
def tyX7 : Nat → FieldType := fun k => match k with
  | 0 => .int
  | 1 => .int
  | 2 => .int
  | 3 => .int
  | _ => .int
theorem nmX7 : ∀ a, a < 5 → ∀ b, b < 5 → a ≠ b → (TX7 a).2.1 ≠ (TX7 b).2.1 := by decide +kernel
theorem tyX7_ok : ∀ k, k < 5 → parseFieldDescriptor (TX7 k).2.2.1 = some (tyX7 k) := by decide +kernel
abbrev cX7_init : ByteArray := prog_9_method_1_code
def yX7_init : MethodName := ⟨RX7, "<init>", "(IIIII)V"⟩
def RX8 : String := "Codewordcable"
def TX8 : u_T := fun k => match k with
  | 0 => ("Codewordcable", "book", "LCodewordcable$Book;", true)
  | 1 => ("Codewordcable", "packer", "LCodewordcable$Packer;", true)
  | 2 => ("Codewordcable", "draft", "LCodewordcable$Draft;", true)
  | 3 => ("Codewordcable", "net", "LCodewordcable$Net;", true)
  | 4 => ("Codewordcable", "firstRules", "LCodewordcable$Rules;", true)
  | 5 => ("Codewordcable", "conferences", "[LCodewordcable$Rules;", true)
  | 6 => ("Codewordcable", "messages", "[LCodewordcable$Message;", true)
  | 7 => ("Codewordcable", "conferenceCount", "I", false)
  | 8 => ("Codewordcable", "messageCount", "I", false)
  | _ => ("Codewordcable", "minute", "I", false)
def tyX8 : Nat → FieldType := fun k => match k with
  | 0 => .object "Codewordcable$Book"
  | 1 => .object "Codewordcable$Packer"
  | 2 => .object "Codewordcable$Draft"
  | 3 => .object "Codewordcable$Net"
  | 4 => .object "Codewordcable$Rules"
  | 5 => .array (.object "Codewordcable$Rules")
  | 6 => .array (.object "Codewordcable$Message")
  | 7 => .int
  | 8 => .int
  | _ => .int
theorem nmX8 : ∀ a, a < 10 → ∀ b, b < 10 → a ≠ b → (TX8 a).2.1 ≠ (TX8 b).2.1 := by decide +kernel
theorem tyX8_ok : ∀ k, k < 10 → parseFieldDescriptor (TX8 k).2.2.1 = some (tyX8 k) := by decide +kernel
abbrev cX8_init : ByteArray := prog_1_method_1_code
def yX8_init : MethodName := ⟨RX8, "<init>", "()V"⟩
abbrev cX8_idea : ByteArray := prog_1_method_2_code
def yX8_idea : MethodName := ⟨RX8, "idea", "(I)I"⟩
abbrev cX8_entry : ByteArray := prog_1_method_3_code
def yX8_entry : MethodName := ⟨RX8, "entry", "(IIIII)I"⟩
abbrev cX8_candidates : ByteArray := prog_1_method_4_code
def yX8_candidates : MethodName := ⟨RX8, "candidates", "(I)I"⟩
abbrev cX8_candidate : ByteArray := prog_1_method_5_code
def yX8_candidate : MethodName := ⟨RX8, "candidate", "(II)I"⟩
abbrev cX8_office : ByteArray := prog_1_method_6_code
def yX8_office : MethodName := ⟨RX8, "office", "()I"⟩
abbrev cX8_cable : ByteArray := prog_1_method_7_code
def yX8_cable : MethodName := ⟨RX8, "cable", "(IIII)I"⟩
abbrev cX8_broken : ByteArray := prog_1_method_8_code
def yX8_broken : MethodName := ⟨RX8, "broken", "(IZ)I"⟩
abbrev cX8_forbid : ByteArray := prog_1_method_9_code
def yX8_forbid : MethodName := ⟨RX8, "forbid", "(IZ)Z"⟩
abbrev cX8_key : ByteArray := prog_1_method_10_code
def yX8_key : MethodName := ⟨RX8, "key", "(II)I"⟩
abbrev cX8_conference : ByteArray := prog_1_method_11_code
def yX8_conference : MethodName := ⟨RX8, "conference", "(IIII)I"⟩
abbrev cX8_reserve : ByteArray := prog_1_method_12_code
def yX8_reserve : MethodName := ⟨RX8, "reserve", "(II)I"⟩
abbrev cX8_draft : ByteArray := prog_1_method_13_code
def yX8_draft : MethodName := ⟨RX8, "draft", "(I)I"⟩
abbrev cX8_words : ByteArray := prog_1_method_14_code
def yX8_words : MethodName := ⟨RX8, "words", "(IZ)I"⟩
abbrev cX8_send : ByteArray := prog_1_method_15_code
def yX8_send : MethodName := ⟨RX8, "send", "(IIIZ)I"⟩
abbrev cX8_wrong : ByteArray := prog_1_method_16_code
def yX8_wrong : MethodName := ⟨RX8, "wrong", "(IIII)I"⟩
abbrev cX8_pass : ByteArray := prog_1_method_17_code
def yX8_pass : MethodName := ⟨RX8, "pass", "(I)I"⟩
abbrev cX8_rest : ByteArray := prog_1_method_18_code
def yX8_rest : MethodName := ⟨RX8, "rest", "(I)I"⟩
abbrev cX8_ofMessage : ByteArray := prog_1_method_19_code
def yX8_ofMessage : MethodName := ⟨RX8, "ofMessage", "(II)I"⟩
abbrev cX8_word : ByteArray := prog_1_method_20_code
def yX8_word : MethodName := ⟨RX8, "word", "(IIZ)I"⟩
abbrev cX8_read : ByteArray := prog_1_method_21_code
def yX8_read : MethodName := ⟨RX8, "read", "(II)I"⟩
abbrev cX8_claim : ByteArray := prog_1_method_22_code
def yX8_claim : MethodName := ⟨RX8, "claim", "(I)I"⟩
abbrev cX8_account : ByteArray := prog_1_method_23_code
def yX8_account : MethodName := ⟨RX8, "account", "(I)I"⟩
abbrev cX8_accountAnew : ByteArray := prog_1_method_24_code
def yX8_accountAnew : MethodName := ⟨RX8, "accountAnew", "(I)I"⟩
abbrev cX8_messageAt : ByteArray := prog_1_method_25_code
def yX8_messageAt : MethodName := ⟨RX8, "messageAt", "(I)LCodewordcable$Message;"⟩
abbrev cX8_countAtCable : ByteArray := prog_1_method_26_code
def yX8_countAtCable : MethodName := ⟨RX8, "countAtCable", "(I)I"⟩
abbrev cX8_rulesAt : ByteArray := prog_1_method_27_code
def yX8_rulesAt : MethodName := ⟨RX8, "rulesAt", "(LCodewordcable$Office;)LCodewordcable$Rules;"⟩
abbrev cX8_settle : ByteArray := prog_1_method_28_code
def yX8_settle : MethodName := ⟨RX8, "settle", "(LCodewordcable$Message;)V"⟩
abbrev cX8_shareIn : ByteArray := prog_1_method_29_code
def yX8_shareIn : MethodName := ⟨RX8, "shareIn", "(LCodewordcable$Message;I)I"⟩
abbrev cX8_isAnyUnderway : ByteArray := prog_1_method_30_code
def yX8_isAnyUnderway : MethodName := ⟨RX8, "isAnyUnderway", "()Z"⟩
abbrev cX8_carryMinute : ByteArray := prog_1_method_31_code
def yX8_carryMinute : MethodName := ⟨RX8, "carryMinute", "()V"⟩
abbrev cX8_carry : ByteArray := prog_1_method_32_code
def yX8_carry : MethodName := ⟨RX8, "carry", "(LCodewordcable$Message;LCodewordcable$Cable;)V"⟩
abbrev cX8_moveOn : ByteArray := prog_1_method_33_code
def yX8_moveOn : MethodName := ⟨RX8, "moveOn", "(LCodewordcable$Message;LCodewordcable$Cable;)V"⟩
abbrev cX8_comeTo : ByteArray := prog_1_method_34_code
def yX8_comeTo : MethodName := ⟨RX8, "comeTo", "(LCodewordcable$Message;I)V"⟩
abbrev cX8_isOutside : ByteArray := prog_1_method_35_code
def yX8_isOutside : MethodName := ⟨RX8, "isOutside", "(III)Z"⟩
abbrev cX8_roundedUp : ByteArray := prog_1_method_36_code
def yX8_roundedUp : MethodName := ⟨RX8, "roundedUp", "(II)I"⟩
abbrev cX8_isCode : ByteArray := prog_1_method_37_code
def yX8_isCode : MethodName := ⟨RX8, "isCode", "(I)Z"⟩
abbrev cX8_plainOf : ByteArray := prog_1_method_38_code
def yX8_plainOf : MethodName := ⟨RX8, "plainOf", "(I)I"⟩
abbrev cX8_ideaOfPlain : ByteArray := prog_1_method_39_code
def yX8_ideaOfPlain : MethodName := ⟨RX8, "ideaOfPlain", "(I)I"⟩
abbrev cX8_weightOf : ByteArray := prog_1_method_40_code
def yX8_weightOf : MethodName := ⟨RX8, "weightOf", "(I)I"⟩
abbrev cX8_letterOf : ByteArray := prog_1_method_41_code
def yX8_letterOf : MethodName := ⟨RX8, "letterOf", "(II)I"⟩
abbrev cX8_withLetter : ByteArray := prog_1_method_42_code
def yX8_withLetter : MethodName := ⟨RX8, "withLetter", "(III)I"⟩
abbrev cX8_vowelsIn : ByteArray := prog_1_method_43_code
def yX8_vowelsIn : MethodName := ⟨RX8, "vowelsIn", "(I)I"⟩
abbrev cX8_partsOf : ByteArray := prog_1_method_44_code
def yX8_partsOf : MethodName := ⟨RX8, "partsOf", "(II)I"⟩
abbrev cX8_firstPart : ByteArray := prog_1_method_45_code
def yX8_firstPart : MethodName := ⟨RX8, "firstPart", "(II)I"⟩
abbrev cX8_isTurned : ByteArray := prog_1_method_46_code
def yX8_isTurned : MethodName := ⟨RX8, "isTurned", "(II)Z"⟩
def RX9 : String := "CodewordcableModel"
def TX9 : u_T := fun k => match k with
  | 0 => ("CodewordcableModel", "ideas", "I", false)
  | 1 => ("CodewordcableModel", "letters", "[I", true)
  | 2 => ("CodewordcableModel", "entries", "I", false)
  | 3 => ("CodewordcableModel", "word", "[I", true)
  | 4 => ("CodewordcableModel", "phrase", "[I", true)
  | 5 => ("CodewordcableModel", "offices", "I", false)
  | 6 => ("CodewordcableModel", "isForbidden", "[Z", true)
  | 7 => ("CodewordcableModel", "keys", "[I", true)
  | 8 => ("CodewordcableModel", "reserved", "[I", true)
  | 9 => ("CodewordcableModel", "accounts", "[I", true)
  | 10 => ("CodewordcableModel", "cables", "I", false)
  | 11 => ("CodewordcableModel", "administration", "[I", true)
  | 12 => ("CodewordcableModel", "other", "[I", true)
  | 13 => ("CodewordcableModel", "rate", "[I", true)
  | 14 => ("CodewordcableModel", "carries", "[I", true)
  | 15 => ("CodewordcableModel", "isBroken", "[Z", true)
  | 16 => ("CodewordcableModel", "conferences", "I", false)
  | 17 => ("CodewordcableModel", "since", "[I", true)
  | 18 => ("CodewordcableModel", "plain", "[I", true)
  | 19 => ("CodewordcableModel", "code", "[I", true)
  | 20 => ("CodewordcableModel", "vowels", "[I", true)
  | 21 => ("CodewordcableModel", "draft", "[I", true)
  | 22 => ("CodewordcableModel", "inDraft", "I", false)
  | 23 => ("CodewordcableModel", "least", "[I", true)
  | 24 => ("CodewordcableModel", "cut", "[I", true)
  | 25 => ("CodewordcableModel", "cuts", "I", false)
  | 26 => ("CodewordcableModel", "paid", "I", false)
  | 27 => ("CodewordcableModel", "messages", "I", false)
  | 28 => ("CodewordcableModel", "from", "[I", true)
  | 29 => ("CodewordcableModel", "to", "[I", true)
  | 30 => ("CodewordcableModel", "kind", "[I", true)
  | 31 => ("CodewordcableModel", "state", "[I", true)
  | 32 => ("CodewordcableModel", "sentMany", "[I", true)
  | 33 => ("CodewordcableModel", "due", "[I", true)
  | 34 => ("CodewordcableModel", "price", "[I", true)
  | 35 => ("CodewordcableModel", "stoppedAt", "[I", true)
  | 36 => ("CodewordcableModel", "hasCode", "[Z", true)
  | 37 => ("CodewordcableModel", "sent", "[I", true)
  | 38 => ("CodewordcableModel", "now", "[I", true)
  | 39 => ("CodewordcableModel", "route", "[I", true)
  | 40 => ("CodewordcableModel", "routeMany", "[I", true)
  | 41 => ("CodewordcableModel", "step", "[I", true)
  | 42 => ("CodewordcableModel", "carried", "[I", true)
  | 43 => ("CodewordcableModel", "isHere", "[Z", true)
  | 44 => ("CodewordcableModel", "far", "[I", true)
  | 45 => ("CodewordcableModel", "way", "[I", true)
  | 46 => ("CodewordcableModel", "wayMany", "I", false)
  | 47 => ("CodewordcableModel", "minute", "I", false)
  | _ => ("CodewordcableModel", "thrown", "I", false)
def tyX9 : Nat → FieldType := fun k => match k with
  | 0 => .int
  | 1 => .array .int
  | 2 => .int
  | 3 => .array .int
  | 4 => .array .int
  | 5 => .int
  | 6 => .array .boolean
  | 7 => .array .int
  | 8 => .array .int
  | 9 => .array .int
  | 10 => .int
  | 11 => .array .int
  | 12 => .array .int
  | 13 => .array .int
  | 14 => .array .int
  | 15 => .array .boolean
  | 16 => .int
  | 17 => .array .int
  | 18 => .array .int
  | 19 => .array .int
  | 20 => .array .int
  | 21 => .array .int
  | 22 => .int
  | 23 => .array .int
  | 24 => .array .int
  | 25 => .int
  | 26 => .int
  | 27 => .int
  | 28 => .array .int
  | 29 => .array .int
  | 30 => .array .int
  | 31 => .array .int
  | 32 => .array .int
  | 33 => .array .int
  | 34 => .array .int
  | 35 => .array .int
  | 36 => .array .boolean
  | 37 => .array .int
  | 38 => .array .int
  | 39 => .array .int
  | 40 => .array .int
  | 41 => .array .int
  | 42 => .array .int
  | 43 => .array .boolean
  | 44 => .array .int
  | 45 => .array .int
  | 46 => .int
  | 47 => .int
  | _ => .int
theorem nmX9 : ∀ a, a < 49 → ∀ b, b < 49 → a ≠ b → (TX9 a).2.1 ≠ (TX9 b).2.1 := by decide +kernel
theorem tyX9_ok : ∀ k, k < 49 → parseFieldDescriptor (TX9 k).2.2.1 = some (tyX9 k) := by decide +kernel
abbrev cX9_init : ByteArray := prog_11_method_1_code
def yX9_init : MethodName := ⟨RX9, "<init>", "()V"⟩
abbrev cX9_thrown : ByteArray := prog_11_method_2_code
def yX9_thrown : MethodName := ⟨RX9, "thrown", "()I"⟩
abbrev cX9_fails : ByteArray := prog_11_method_3_code
def yX9_fails : MethodName := ⟨RX9, "fails", "(I)I"⟩
abbrev cX9_asks : ByteArray := prog_11_method_4_code
def yX9_asks : MethodName := ⟨RX9, "asks", "(Z)Z"⟩
abbrev cX9_in : ByteArray := prog_11_method_5_code
def yX9_in : MethodName := ⟨RX9, "in", "(III)Z"⟩
abbrev cX9_isIdea : ByteArray := prog_11_method_6_code
def yX9_isIdea : MethodName := ⟨RX9, "isIdea", "(I)Z"⟩
abbrev cX9_isOffice : ByteArray := prog_11_method_7_code
def yX9_isOffice : MethodName := ⟨RX9, "isOffice", "(I)Z"⟩
abbrev cX9_isCable : ByteArray := prog_11_method_8_code
def yX9_isCable : MethodName := ⟨RX9, "isCable", "(I)Z"⟩
abbrev cX9_isMessage : ByteArray := prog_11_method_9_code
def yX9_isMessage : MethodName := ⟨RX9, "isMessage", "(I)Z"⟩
abbrev cX9_isWord : ByteArray := prog_11_method_10_code
def yX9_isWord : MethodName := ⟨RX9, "isWord", "(I)Z"⟩
abbrev cX9_letter : ByteArray := prog_11_method_11_code
def yX9_letter : MethodName := ⟨RX9, "letter", "(II)I"⟩
abbrev cX9_parts : ByteArray := prog_11_method_12_code
def yX9_parts : MethodName := ⟨RX9, "parts", "(II)I"⟩
abbrev cX9_isTurned : ByteArray := prog_11_method_13_code
def yX9_isTurned : MethodName := ⟨RX9, "isTurned", "(II)Z"⟩
abbrev cX9_vowelsOf : ByteArray := prog_11_method_14_code
def yX9_vowelsOf : MethodName := ⟨RX9, "vowelsOf", "(I)I"⟩
abbrev cX9_idea : ByteArray := prog_11_method_15_code
def yX9_idea : MethodName := ⟨RX9, "idea", "(I)I"⟩
abbrev cX9_isIdeaOrNone : ByteArray := prog_11_method_16_code
def yX9_isIdeaOrNone : MethodName := ⟨RX9, "isIdeaOrNone", "(I)Z"⟩
abbrev cX9_entry : ByteArray := prog_11_method_17_code
def yX9_entry : MethodName := ⟨RX9, "entry", "(IIIII)I"⟩
abbrev cX9_isInBook : ByteArray := prog_11_method_18_code
def yX9_isInBook : MethodName := ⟨RX9, "isInBook", "(I)Z"⟩
abbrev cX9_candidateAt : ByteArray := prog_11_method_19_code
def yX9_candidateAt : MethodName := ⟨RX9, "candidateAt", "(II)I"⟩
abbrev cX9_candidatesOf : ByteArray := prog_11_method_20_code
def yX9_candidatesOf : MethodName := ⟨RX9, "candidatesOf", "(I)I"⟩
abbrev cX9_candidates : ByteArray := prog_11_method_21_code
def yX9_candidates : MethodName := ⟨RX9, "candidates", "(I)I"⟩
abbrev cX9_candidate : ByteArray := prog_11_method_22_code
def yX9_candidate : MethodName := ⟨RX9, "candidate", "(II)I"⟩
abbrev cX9_office : ByteArray := prog_11_method_23_code
def yX9_office : MethodName := ⟨RX9, "office", "()I"⟩
abbrev cX9_cable : ByteArray := prog_11_method_24_code
def yX9_cable : MethodName := ⟨RX9, "cable", "(IIII)I"⟩
abbrev cX9_cableOf : ByteArray := prog_11_method_25_code
def yX9_cableOf : MethodName := ⟨RX9, "cableOf", "(I)I"⟩
abbrev cX9_broken : ByteArray := prog_11_method_26_code
def yX9_broken : MethodName := ⟨RX9, "broken", "(IZ)I"⟩
abbrev cX9_forbid : ByteArray := prog_11_method_27_code
def yX9_forbid : MethodName := ⟨RX9, "forbid", "(IZ)Z"⟩
abbrev cX9_key : ByteArray := prog_11_method_28_code
def yX9_key : MethodName := ⟨RX9, "key", "(II)I"⟩
abbrev cX9_conference : ByteArray := prog_11_method_29_code
def yX9_conference : MethodName := ⟨RX9, "conference", "(IIII)I"⟩
abbrev cX9_rulesAt : ByteArray := prog_11_method_30_code
def yX9_rulesAt : MethodName := ⟨RX9, "rulesAt", "(I)I"⟩
abbrev cX9_reserve : ByteArray := prog_11_method_31_code
def yX9_reserve : MethodName := ⟨RX9, "reserve", "(II)I"⟩
abbrev cX9_up : ByteArray := prog_11_method_32_code
def yX9_up : MethodName := ⟨RX9, "up", "(II)I"⟩
abbrev cX9_sentAs : ByteArray := prog_11_method_33_code
def yX9_sentAs : MethodName := ⟨RX9, "sentAs", "(II)I"⟩
abbrev cX9_entryAt : ByteArray := prog_11_method_34_code
def yX9_entryAt : MethodName := ⟨RX9, "entryAt", "(III)I"⟩
abbrev cX9_plainAt : ByteArray := prog_11_method_35_code
def yX9_plainAt : MethodName := ⟨RX9, "plainAt", "(II)I"⟩
abbrev cX9_allPlain : ByteArray := prog_11_method_36_code
def yX9_allPlain : MethodName := ⟨RX9, "allPlain", "(I)I"⟩
abbrev cX9_reckons : ByteArray := prog_11_method_37_code
def yX9_reckons : MethodName := ⟨RX9, "reckons", "(I)V"⟩
abbrev cX9_cuts : ByteArray := prog_11_method_38_code
def yX9_cuts : MethodName := ⟨RX9, "cuts", "(II)V"⟩
abbrev cX9_packs : ByteArray := prog_11_method_39_code
def yX9_packs : MethodName := ⟨RX9, "packs", "(IZ)V"⟩
abbrev cX9_draft : ByteArray := prog_11_method_40_code
def yX9_draft : MethodName := ⟨RX9, "draft", "(I)I"⟩
abbrev cX9_words : ByteArray := prog_11_method_41_code
def yX9_words : MethodName := ⟨RX9, "words", "(IZ)I"⟩
abbrev cX9_end : ByteArray := prog_11_method_42_code
def yX9_end : MethodName := ⟨RX9, "end", "(II)I"⟩
abbrev cX9_reaches : ByteArray := prog_11_method_43_code
def yX9_reaches : MethodName := ⟨RX9, "reaches", "(I)V"⟩
abbrev cX9_hasRoute : ByteArray := prog_11_method_44_code
def yX9_hasRoute : MethodName := ⟨RX9, "hasRoute", "(II)Z"⟩
abbrev cX9_comes : ByteArray := prog_11_method_45_code
def yX9_comes : MethodName := ⟨RX9, "comes", "(II)V"⟩
abbrev cX9_send : ByteArray := prog_11_method_46_code
def yX9_send : MethodName := ⟨RX9, "send", "(IIIZ)I"⟩
abbrev cX9_isCodeAt : ByteArray := prog_11_method_47_code
def yX9_isCodeAt : MethodName := ⟨RX9, "isCodeAt", "(II)Z"⟩
abbrev cX9_wrong : ByteArray := prog_11_method_48_code
def yX9_wrong : MethodName := ⟨RX9, "wrong", "(IIII)I"⟩
abbrev cX9_behind : ByteArray := prog_11_method_49_code
def yX9_behind : MethodName := ⟨RX9, "behind", "(I)I"⟩
abbrev cX9_carry : ByteArray := prog_11_method_50_code
def yX9_carry : MethodName := ⟨RX9, "carry", "(II)I"⟩
abbrev cX9_carries : ByteArray := prog_11_method_51_code
def yX9_carries : MethodName := ⟨RX9, "carries", "()V"⟩
abbrev cX9_pass : ByteArray := prog_11_method_52_code
def yX9_pass : MethodName := ⟨RX9, "pass", "(I)I"⟩
abbrev cX9_rest : ByteArray := prog_11_method_53_code
def yX9_rest : MethodName := ⟨RX9, "rest", "(I)I"⟩
abbrev cX9_ofMessage : ByteArray := prog_11_method_54_code
def yX9_ofMessage : MethodName := ⟨RX9, "ofMessage", "(II)I"⟩
abbrev cX9_word : ByteArray := prog_11_method_55_code
def yX9_word : MethodName := ⟨RX9, "word", "(IIZ)I"⟩
abbrev cX9_readAs : ByteArray := prog_11_method_56_code
def yX9_readAs : MethodName := ⟨RX9, "readAs", "(II)I"⟩
abbrev cX9_read : ByteArray := prog_11_method_57_code
def yX9_read : MethodName := ⟨RX9, "read", "(II)I"⟩
abbrev cX9_claim : ByteArray := prog_11_method_58_code
def yX9_claim : MethodName := ⟨RX9, "claim", "(I)I"⟩
abbrev cX9_account : ByteArray := prog_11_method_59_code
def yX9_account : MethodName := ⟨RX9, "account", "(I)I"⟩
abbrev cX9_accountAnew : ByteArray := prog_11_method_60_code
def yX9_accountAnew : MethodName := ⟨RX9, "accountAnew", "(I)I"⟩
def RJx145de : String := "java/io/Serializable"
def RJx8e188 : String := "java/lang/Cloneable"
def RJ9 : String := "java/lang/Math"
def TJ9 : u_T := fun k => match k with
  | _ => ("", "", "", false)
def tyJ9 : Nat → FieldType := fun k => match k with
  | _ => .int
theorem nmJ9 : ∀ a, a < 0 → ∀ b, b < 0 → a ≠ b → (TJ9 a).2.1 ≠ (TJ9 b).2.1 := by decide +kernel
theorem tyJ9_ok : ∀ k, k < 0 → parseFieldDescriptor (TJ9 k).2.2.1 = some (tyJ9 k) := by decide +kernel
abbrev cJ9_floorMod_7cf53 : ByteArray := prog_17_method_50_code
def yJ9_floorMod_7cf53 : MethodName := ⟨RJ9, "floorMod", "(II)I"⟩
abbrev cJ9_max_7cf53 : ByteArray := prog_17_method_65_code
def yJ9_max_7cf53 : MethodName := ⟨RJ9, "max", "(II)I"⟩
abbrev cJ9_min_7cf53 : ByteArray := prog_17_method_69_code
def yJ9_min_7cf53 : MethodName := ⟨RJ9, "min", "(II)I"⟩
def RJ0 : String := "java/lang/String"
def TJ0 : u_T := fun k => match k with
  | _ => ("", "", "", false)
def tyJ0 : Nat → FieldType := fun k => match k with
  | _ => .int
theorem nmJ0 : ∀ a, a < 0 → ∀ b, b < 0 → a ≠ b → (TJ0 a).2.1 ≠ (TJ0 b).2.1 := by decide +kernel
theorem tyJ0_ok : ∀ k, k < 0 → parseFieldDescriptor (TJ0 k).2.2.1 = some (tyJ0 k) := by decide +kernel
def RJ10 : String := "java/lang/System"
def TJ10 : u_T := fun k => match k with
  | _ => ("", "", "", false)
def tyJ10 : Nat → FieldType := fun k => match k with
  | _ => .int
theorem nmJ10 : ∀ a, a < 0 → ∀ b, b < 0 → a ≠ b → (TJ10 a).2.1 ≠ (TJ10 b).2.1 := by decide +kernel
theorem tyJ10_ok : ∀ k, k < 0 → parseFieldDescriptor (TJ10 k).2.2.1 = some (tyJ10 k) := by decide +kernel
def RJ7 : String := "java/util/Arrays"
def TJ7 : u_T := fun k => match k with
  | _ => ("", "", "", false)
def tyJ7 : Nat → FieldType := fun k => match k with
  | _ => .int
theorem nmJ7 : ∀ a, a < 0 → ∀ b, b < 0 → a ≠ b → (TJ7 a).2.1 ≠ (TJ7 b).2.1 := by decide +kernel
theorem tyJ7_ok : ∀ k, k < 0 → parseFieldDescriptor (TJ7 k).2.2.1 = some (tyJ7 k) := by decide +kernel
abbrev cJ7_fill_53178 : ByteArray := prog_22_method_103_code
def yJ7_fill_53178 : MethodName := ⟨RJ7, "fill", "([II)V"⟩
abbrev cJ7_copyOf_59c91 : ByteArray := prog_22_method_123_code
def yJ7_copyOf_59c91 : MethodName := ⟨RJ7, "copyOf", "([II)[I"⟩
def RL : String := "CodewordcableLaw"
abbrev cL_idea : ByteArray := method_3_code
def yL_idea : MethodName := ⟨RL, "idea", "(LCodewordcable;I[J)I"⟩
abbrev cL_entry : ByteArray := method_4_code
def yL_entry : MethodName := ⟨RL, "entry", "(LCodewordcable;IIIII[J)I"⟩
abbrev cL_candidates : ByteArray := method_5_code
def yL_candidates : MethodName := ⟨RL, "candidates", "(LCodewordcable;I[J)I"⟩
abbrev cL_candidate : ByteArray := method_6_code
def yL_candidate : MethodName := ⟨RL, "candidate", "(LCodewordcable;II[J)I"⟩
abbrev cL_office : ByteArray := method_7_code
def yL_office : MethodName := ⟨RL, "office", "(LCodewordcable;[J)I"⟩
abbrev cL_cable : ByteArray := method_8_code
def yL_cable : MethodName := ⟨RL, "cable", "(LCodewordcable;IIII[J)I"⟩
abbrev cL_broken : ByteArray := method_9_code
def yL_broken : MethodName := ⟨RL, "broken", "(LCodewordcable;IZ[J)I"⟩
abbrev cL_forbid : ByteArray := method_10_code
def yL_forbid : MethodName := ⟨RL, "forbid", "(LCodewordcable;IZ[J)I"⟩
abbrev cL_key : ByteArray := method_11_code
def yL_key : MethodName := ⟨RL, "key", "(LCodewordcable;II[J)I"⟩
abbrev cL_conference : ByteArray := method_12_code
def yL_conference : MethodName := ⟨RL, "conference", "(LCodewordcable;IIII[J)I"⟩
abbrev cL_reserve : ByteArray := method_13_code
def yL_reserve : MethodName := ⟨RL, "reserve", "(LCodewordcable;II[J)I"⟩
abbrev cL_draft : ByteArray := method_14_code
def yL_draft : MethodName := ⟨RL, "draft", "(LCodewordcable;I[J)I"⟩
abbrev cL_words : ByteArray := method_15_code
def yL_words : MethodName := ⟨RL, "words", "(LCodewordcable;IZ[J)I"⟩
abbrev cL_send : ByteArray := method_16_code
def yL_send : MethodName := ⟨RL, "send", "(LCodewordcable;IIIZ[J)I"⟩
abbrev cL_wrong : ByteArray := method_17_code
def yL_wrong : MethodName := ⟨RL, "wrong", "(LCodewordcable;IIII[J)I"⟩
abbrev cL_pass : ByteArray := method_18_code
def yL_pass : MethodName := ⟨RL, "pass", "(LCodewordcable;I[J)I"⟩
abbrev cL_rest : ByteArray := method_19_code
def yL_rest : MethodName := ⟨RL, "rest", "(LCodewordcable;I[J)I"⟩
abbrev cL_ofMessage : ByteArray := method_20_code
def yL_ofMessage : MethodName := ⟨RL, "ofMessage", "(LCodewordcable;II[J)I"⟩
abbrev cL_word : ByteArray := method_21_code
def yL_word : MethodName := ⟨RL, "word", "(LCodewordcable;IIZ[J)I"⟩
abbrev cL_read : ByteArray := method_22_code
def yL_read : MethodName := ⟨RL, "read", "(LCodewordcable;II[J)I"⟩
abbrev cL_claim : ByteArray := method_23_code
def yL_claim : MethodName := ⟨RL, "claim", "(LCodewordcable;I[J)I"⟩
abbrev cL_account : ByteArray := method_24_code
def yL_account : MethodName := ⟨RL, "account", "(LCodewordcable;I[J)I"⟩
abbrev cL_accountAnew : ByteArray := method_25_code
def yL_accountAnew : MethodName := ⟨RL, "accountAnew", "(LCodewordcable;I[J)I"⟩
abbrev cL_law : ByteArray := code
def yL_law : MethodName := ⟨RL, "law", "([I)Z"⟩
abbrev vwCl : List vw_C := [(RX0, TX0, 7), (RX1, TX1, 6), (RX2, TX2, 2), (RX3, TX3, 13), (RX4, TX4, 7), (RX5, TX5, 4), (RX6, TX6, 7), (RX7, TX7, 5), (RX8, TX8, 10), (RX9, TX9, 49)]
