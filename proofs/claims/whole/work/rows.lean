section
-- ===== PART A: goes FIRST, ahead of the names: the tables' words, and 'selects' of the private methods out of them =====
/-- a private method of a class that the tables say can be made, by its rows of tables_1 -/
def lw_okq (q : MethodName × Nat) : Prop := (q.1.cls ≠ "java/lang/invoke/MethodHandle" ∧ q.1.cls ≠ "java/lang/invoke/VarHandle") ∧ Cond.instantiable q.1.cls q.2 ∈ tables_1 ∧ Cond.privateMethod q.1 ∈ tables_1 ∧ Cond.instanceMethod q.1 ∈ tables_1
theorem lw_p0 : lw_okq (⟨"java/lang/Throwable", "fillInStackTrace", "(I)Ljava/lang/Throwable;"⟩, 6) := ⟨⟨by decide +kernel, by decide +kernel⟩, List.mem_of_getElem? (i := 251) (by decide +kernel), List.mem_of_getElem? (i := 249) (by decide +kernel), List.mem_of_getElem? (i := 250) (by decide +kernel)⟩
theorem lw_p1 : lw_okq (⟨"Codewordcable$Book", "addFind", "(I)V"⟩, 7) := ⟨⟨by decide +kernel, by decide +kernel⟩, List.mem_of_getElem? (i := 29) (by decide +kernel), List.mem_of_getElem? (i := 384) (by decide +kernel), List.mem_of_getElem? (i := 385) (by decide +kernel)⟩
theorem lw_p2 : lw_okq (⟨"Codewordcable", "countAtCable", "(I)I"⟩, 10) := ⟨⟨by decide +kernel, by decide +kernel⟩, List.mem_of_getElem? (i := 21) (by decide +kernel), List.mem_of_getElem? (i := 506) (by decide +kernel), List.mem_of_getElem? (i := 507) (by decide +kernel)⟩
theorem lw_p3 : lw_okq (⟨"Codewordcable", "messageAt", "(I)LCodewordcable$Message;"⟩, 10) := ⟨⟨by decide +kernel, by decide +kernel⟩, List.mem_of_getElem? (i := 21) (by decide +kernel), List.mem_of_getElem? (i := 510) (by decide +kernel), List.mem_of_getElem? (i := 511) (by decide +kernel)⟩
theorem lw_p4 : lw_okq (⟨"Codewordcable", "rulesAt", "(LCodewordcable$Office;)LCodewordcable$Rules;"⟩, 10) := ⟨⟨by decide +kernel, by decide +kernel⟩, List.mem_of_getElem? (i := 21) (by decide +kernel), List.mem_of_getElem? (i := 556) (by decide +kernel), List.mem_of_getElem? (i := 557) (by decide +kernel)⟩
theorem lw_p5 : lw_okq (⟨"Codewordcable$Packer", "plainCost", "(LCodewordcable$Draft;LCodewordcable$Rules;)I"⟩, 7) := ⟨⟨by decide +kernel, by decide +kernel⟩, List.mem_of_getElem? (i := 59) (by decide +kernel), List.mem_of_getElem? (i := 587) (by decide +kernel), List.mem_of_getElem? (i := 588) (by decide +kernel)⟩
theorem lw_p6 : lw_okq (⟨"Codewordcable$Packer", "findCodes", "(LCodewordcable$Draft;ILCodewordcable$Rules;)V"⟩, 7) := ⟨⟨by decide +kernel, by decide +kernel⟩, List.mem_of_getElem? (i := 59) (by decide +kernel), List.mem_of_getElem? (i := 603) (by decide +kernel), List.mem_of_getElem? (i := 604) (by decide +kernel)⟩
theorem lw_p7 : lw_okq (⟨"Codewordcable$Book", "standsAt", "(ILCodewordcable$Draft;II)Z"⟩, 7) := ⟨⟨by decide +kernel, by decide +kernel⟩, List.mem_of_getElem? (i := 29) (by decide +kernel), List.mem_of_getElem? (i := 614) (by decide +kernel), List.mem_of_getElem? (i := 615) (by decide +kernel)⟩
theorem lw_p8 : lw_okq (⟨"Codewordcable$Packer", "findLeast", "(LCodewordcable$Draft;LCodewordcable$Rules;)V"⟩, 7) := ⟨⟨by decide +kernel, by decide +kernel⟩, List.mem_of_getElem? (i := 59) (by decide +kernel), List.mem_of_getElem? (i := 630) (by decide +kernel), List.mem_of_getElem? (i := 631) (by decide +kernel)⟩
theorem lw_p9 : lw_okq (⟨"Codewordcable$Packer", "setLeast", "(III)V"⟩, 7) := ⟨⟨by decide +kernel, by decide +kernel⟩, List.mem_of_getElem? (i := 59) (by decide +kernel), List.mem_of_getElem? (i := 635) (by decide +kernel), List.mem_of_getElem? (i := 636) (by decide +kernel)⟩
theorem lw_p10 : lw_okq (⟨"Codewordcable$Packer", "leastFrom", "(II)I"⟩, 7) := ⟨⟨by decide +kernel, by decide +kernel⟩, List.mem_of_getElem? (i := 59) (by decide +kernel), List.mem_of_getElem? (i := 640) (by decide +kernel), List.mem_of_getElem? (i := 641) (by decide +kernel)⟩
theorem lw_p11 : lw_okq (⟨"Codewordcable$Packer", "codeFor", "(II)I"⟩, 7) := ⟨⟨by decide +kernel, by decide +kernel⟩, List.mem_of_getElem? (i := 59) (by decide +kernel), List.mem_of_getElem? (i := 644) (by decide +kernel), List.mem_of_getElem? (i := 645) (by decide +kernel)⟩
theorem lw_p12 : lw_okq (⟨"Codewordcable$Packer", "chooseCount", "(LCodewordcable$Draft;LCodewordcable$Rules;)V"⟩, 7) := ⟨⟨by decide +kernel, by decide +kernel⟩, List.mem_of_getElem? (i := 59) (by decide +kernel), List.mem_of_getElem? (i := 651) (by decide +kernel), List.mem_of_getElem? (i := 652) (by decide +kernel)⟩
theorem lw_p13 : lw_okq (⟨"Codewordcable$Packer", "cut", "(LCodewordcable$Draft;LCodewordcable$Rules;)V"⟩, 7) := ⟨⟨by decide +kernel, by decide +kernel⟩, List.mem_of_getElem? (i := 59) (by decide +kernel), List.mem_of_getElem? (i := 655) (by decide +kernel), List.mem_of_getElem? (i := 656) (by decide +kernel)⟩
theorem lw_p14 : lw_okq (⟨"Codewordcable$Packer", "longestCode", "(II)I"⟩, 7) := ⟨⟨by decide +kernel, by decide +kernel⟩, List.mem_of_getElem? (i := 59) (by decide +kernel), List.mem_of_getElem? (i := 659) (by decide +kernel), List.mem_of_getElem? (i := 660) (by decide +kernel)⟩
theorem lw_p15 : lw_okq (⟨"Codewordcable$Packer", "addWord", "(I)V"⟩, 7) := ⟨⟨by decide +kernel, by decide +kernel⟩, List.mem_of_getElem? (i := 59) (by decide +kernel), List.mem_of_getElem? (i := 663) (by decide +kernel), List.mem_of_getElem? (i := 664) (by decide +kernel)⟩
def lw_privs_1 : List (MethodName × Nat) := [(⟨"java/lang/Throwable", "fillInStackTrace", "(I)Ljava/lang/Throwable;"⟩, 6), (⟨"Codewordcable$Book", "addFind", "(I)V"⟩, 7), (⟨"Codewordcable", "countAtCable", "(I)I"⟩, 10), (⟨"Codewordcable", "messageAt", "(I)LCodewordcable$Message;"⟩, 10), (⟨"Codewordcable", "rulesAt", "(LCodewordcable$Office;)LCodewordcable$Rules;"⟩, 10), (⟨"Codewordcable$Packer", "plainCost", "(LCodewordcable$Draft;LCodewordcable$Rules;)I"⟩, 7), (⟨"Codewordcable$Packer", "findCodes", "(LCodewordcable$Draft;ILCodewordcable$Rules;)V"⟩, 7), (⟨"Codewordcable$Book", "standsAt", "(ILCodewordcable$Draft;II)Z"⟩, 7), (⟨"Codewordcable$Packer", "findLeast", "(LCodewordcable$Draft;LCodewordcable$Rules;)V"⟩, 7), (⟨"Codewordcable$Packer", "setLeast", "(III)V"⟩, 7), (⟨"Codewordcable$Packer", "leastFrom", "(II)I"⟩, 7), (⟨"Codewordcable$Packer", "codeFor", "(II)I"⟩, 7), (⟨"Codewordcable$Packer", "chooseCount", "(LCodewordcable$Draft;LCodewordcable$Rules;)V"⟩, 7), (⟨"Codewordcable$Packer", "cut", "(LCodewordcable$Draft;LCodewordcable$Rules;)V"⟩, 7), (⟨"Codewordcable$Packer", "longestCode", "(II)I"⟩, 7), (⟨"Codewordcable$Packer", "addWord", "(I)V"⟩, 7)]
theorem lw_r1 : ∀ q ∈ lw_privs_1, lw_okq q := List.forall_mem_cons.mpr ⟨lw_p0, List.forall_mem_cons.mpr ⟨lw_p1, List.forall_mem_cons.mpr ⟨lw_p2, List.forall_mem_cons.mpr ⟨lw_p3, List.forall_mem_cons.mpr ⟨lw_p4, List.forall_mem_cons.mpr ⟨lw_p5, List.forall_mem_cons.mpr ⟨lw_p6, List.forall_mem_cons.mpr ⟨lw_p7, List.forall_mem_cons.mpr ⟨lw_p8, List.forall_mem_cons.mpr ⟨lw_p9, List.forall_mem_cons.mpr ⟨lw_p10, List.forall_mem_cons.mpr ⟨lw_p11, List.forall_mem_cons.mpr ⟨lw_p12, List.forall_mem_cons.mpr ⟨lw_p13, List.forall_mem_cons.mpr ⟨lw_p14, List.forall_mem_cons.mpr ⟨lw_p15, fun _ h => absurd h List.not_mem_nil⟩⟩⟩⟩⟩⟩⟩⟩⟩⟩⟩⟩⟩⟩⟩⟩
theorem lw_p16 : lw_okq (⟨"Codewordcable$Net", "findCosts", "(I)V"⟩, 7) := ⟨⟨by decide +kernel, by decide +kernel⟩, List.mem_of_getElem? (i := 106) (by decide +kernel), List.mem_of_getElem? (i := 682) (by decide +kernel), List.mem_of_getElem? (i := 683) (by decide +kernel)⟩
theorem lw_p17 : lw_okq (⟨"Codewordcable$Net", "setCost", "(II)V"⟩, 7) := ⟨⟨by decide +kernel, by decide +kernel⟩, List.mem_of_getElem? (i := 106) (by decide +kernel), List.mem_of_getElem? (i := 688) (by decide +kernel), List.mem_of_getElem? (i := 689) (by decide +kernel)⟩
theorem lw_p18 : lw_okq (⟨"Codewordcable$Net", "lowerCost", "(ILCodewordcable$Cable;)V"⟩, 7) := ⟨⟨by decide +kernel, by decide +kernel⟩, List.mem_of_getElem? (i := 106) (by decide +kernel), List.mem_of_getElem? (i := 693) (by decide +kernel), List.mem_of_getElem? (i := 694) (by decide +kernel)⟩
theorem lw_p19 : lw_okq (⟨"Codewordcable$Net", "costFrom", "(I)I"⟩, 7) := ⟨⟨by decide +kernel, by decide +kernel⟩, List.mem_of_getElem? (i := 106) (by decide +kernel), List.mem_of_getElem? (i := 701) (by decide +kernel), List.mem_of_getElem? (i := 702) (by decide +kernel)⟩
theorem lw_p20 : lw_okq (⟨"Codewordcable$Net", "nextCable", "(I)I"⟩, 7) := ⟨⟨by decide +kernel, by decide +kernel⟩, List.mem_of_getElem? (i := 106) (by decide +kernel), List.mem_of_getElem? (i := 708) (by decide +kernel), List.mem_of_getElem? (i := 709) (by decide +kernel)⟩
theorem lw_p21 : lw_okq (⟨"Codewordcable$Message", "priceAt", "(I)I"⟩, 13) := ⟨⟨by decide +kernel, by decide +kernel⟩, List.mem_of_getElem? (i := 716) (by decide +kernel), List.mem_of_getElem? (i := 744) (by decide +kernel), List.mem_of_getElem? (i := 745) (by decide +kernel)⟩
theorem lw_p22 : lw_okq (⟨"Codewordcable", "settle", "(LCodewordcable$Message;)V"⟩, 10) := ⟨⟨by decide +kernel, by decide +kernel⟩, List.mem_of_getElem? (i := 21) (by decide +kernel), List.mem_of_getElem? (i := 801) (by decide +kernel), List.mem_of_getElem? (i := 802) (by decide +kernel)⟩
theorem lw_p23 : lw_okq (⟨"Codewordcable", "comeTo", "(LCodewordcable$Message;I)V"⟩, 10) := ⟨⟨by decide +kernel, by decide +kernel⟩, List.mem_of_getElem? (i := 21) (by decide +kernel), List.mem_of_getElem? (i := 806) (by decide +kernel), List.mem_of_getElem? (i := 807) (by decide +kernel)⟩
theorem lw_p24 : lw_okq (⟨"Codewordcable", "isAnyUnderway", "()Z"⟩, 10) := ⟨⟨by decide +kernel, by decide +kernel⟩, List.mem_of_getElem? (i := 21) (by decide +kernel), List.mem_of_getElem? (i := 849) (by decide +kernel), List.mem_of_getElem? (i := 850) (by decide +kernel)⟩
theorem lw_p25 : lw_okq (⟨"Codewordcable", "carryMinute", "()V"⟩, 10) := ⟨⟨by decide +kernel, by decide +kernel⟩, List.mem_of_getElem? (i := 21) (by decide +kernel), List.mem_of_getElem? (i := 853) (by decide +kernel), List.mem_of_getElem? (i := 854) (by decide +kernel)⟩
theorem lw_p26 : lw_okq (⟨"Codewordcable", "moveOn", "(LCodewordcable$Message;LCodewordcable$Cable;)V"⟩, 10) := ⟨⟨by decide +kernel, by decide +kernel⟩, List.mem_of_getElem? (i := 21) (by decide +kernel), List.mem_of_getElem? (i := 865) (by decide +kernel), List.mem_of_getElem? (i := 866) (by decide +kernel)⟩
theorem lw_p27 : lw_okq (⟨"Codewordcable", "shareIn", "(LCodewordcable$Message;I)I"⟩, 10) := ⟨⟨by decide +kernel, by decide +kernel⟩, List.mem_of_getElem? (i := 21) (by decide +kernel), List.mem_of_getElem? (i := 942) (by decide +kernel), List.mem_of_getElem? (i := 943) (by decide +kernel)⟩
theorem lw_p28 : lw_okq (⟨"CodewordcableModel", "asks", "(Z)Z"⟩, 49) := ⟨⟨by decide +kernel, by decide +kernel⟩, List.mem_of_getElem? (i := 946) (by decide +kernel), List.mem_of_getElem? (i := 1111) (by decide +kernel), List.mem_of_getElem? (i := 1112) (by decide +kernel)⟩
theorem lw_p29 : lw_okq (⟨"CodewordcableModel", "fails", "(I)I"⟩, 49) := ⟨⟨by decide +kernel, by decide +kernel⟩, List.mem_of_getElem? (i := 946) (by decide +kernel), List.mem_of_getElem? (i := 1115) (by decide +kernel), List.mem_of_getElem? (i := 1116) (by decide +kernel)⟩
theorem lw_p30 : lw_okq (⟨"CodewordcableModel", "isIdea", "(I)Z"⟩, 49) := ⟨⟨by decide +kernel, by decide +kernel⟩, List.mem_of_getElem? (i := 946) (by decide +kernel), List.mem_of_getElem? (i := 1123) (by decide +kernel), List.mem_of_getElem? (i := 1124) (by decide +kernel)⟩
theorem lw_p31 : lw_okq (⟨"CodewordcableModel", "isIdeaOrNone", "(I)Z"⟩, 49) := ⟨⟨by decide +kernel, by decide +kernel⟩, List.mem_of_getElem? (i := 946) (by decide +kernel), List.mem_of_getElem? (i := 1127) (by decide +kernel), List.mem_of_getElem? (i := 1128) (by decide +kernel)⟩
def lw_privs_2 : List (MethodName × Nat) := [(⟨"Codewordcable$Net", "findCosts", "(I)V"⟩, 7), (⟨"Codewordcable$Net", "setCost", "(II)V"⟩, 7), (⟨"Codewordcable$Net", "lowerCost", "(ILCodewordcable$Cable;)V"⟩, 7), (⟨"Codewordcable$Net", "costFrom", "(I)I"⟩, 7), (⟨"Codewordcable$Net", "nextCable", "(I)I"⟩, 7), (⟨"Codewordcable$Message", "priceAt", "(I)I"⟩, 13), (⟨"Codewordcable", "settle", "(LCodewordcable$Message;)V"⟩, 10), (⟨"Codewordcable", "comeTo", "(LCodewordcable$Message;I)V"⟩, 10), (⟨"Codewordcable", "isAnyUnderway", "()Z"⟩, 10), (⟨"Codewordcable", "carryMinute", "()V"⟩, 10), (⟨"Codewordcable", "moveOn", "(LCodewordcable$Message;LCodewordcable$Cable;)V"⟩, 10), (⟨"Codewordcable", "shareIn", "(LCodewordcable$Message;I)I"⟩, 10), (⟨"CodewordcableModel", "asks", "(Z)Z"⟩, 49), (⟨"CodewordcableModel", "fails", "(I)I"⟩, 49), (⟨"CodewordcableModel", "isIdea", "(I)Z"⟩, 49), (⟨"CodewordcableModel", "isIdeaOrNone", "(I)Z"⟩, 49)]
theorem lw_r2 : ∀ q ∈ lw_privs_2, lw_okq q := List.forall_mem_cons.mpr ⟨lw_p16, List.forall_mem_cons.mpr ⟨lw_p17, List.forall_mem_cons.mpr ⟨lw_p18, List.forall_mem_cons.mpr ⟨lw_p19, List.forall_mem_cons.mpr ⟨lw_p20, List.forall_mem_cons.mpr ⟨lw_p21, List.forall_mem_cons.mpr ⟨lw_p22, List.forall_mem_cons.mpr ⟨lw_p23, List.forall_mem_cons.mpr ⟨lw_p24, List.forall_mem_cons.mpr ⟨lw_p25, List.forall_mem_cons.mpr ⟨lw_p26, List.forall_mem_cons.mpr ⟨lw_p27, List.forall_mem_cons.mpr ⟨lw_p28, List.forall_mem_cons.mpr ⟨lw_p29, List.forall_mem_cons.mpr ⟨lw_p30, List.forall_mem_cons.mpr ⟨lw_p31, fun _ h => absurd h List.not_mem_nil⟩⟩⟩⟩⟩⟩⟩⟩⟩⟩⟩⟩⟩⟩⟩⟩
theorem lw_p32 : lw_okq (⟨"CodewordcableModel", "candidatesOf", "(I)I"⟩, 49) := ⟨⟨by decide +kernel, by decide +kernel⟩, List.mem_of_getElem? (i := 946) (by decide +kernel), List.mem_of_getElem? (i := 1145) (by decide +kernel), List.mem_of_getElem? (i := 1146) (by decide +kernel)⟩
theorem lw_p33 : lw_okq (⟨"CodewordcableModel", "candidateAt", "(II)I"⟩, 49) := ⟨⟨by decide +kernel, by decide +kernel⟩, List.mem_of_getElem? (i := 946) (by decide +kernel), List.mem_of_getElem? (i := 1149) (by decide +kernel), List.mem_of_getElem? (i := 1150) (by decide +kernel)⟩
theorem lw_p34 : lw_okq (⟨"CodewordcableModel", "isInBook", "(I)Z"⟩, 49) := ⟨⟨by decide +kernel, by decide +kernel⟩, List.mem_of_getElem? (i := 946) (by decide +kernel), List.mem_of_getElem? (i := 1153) (by decide +kernel), List.mem_of_getElem? (i := 1154) (by decide +kernel)⟩
theorem lw_p35 : lw_okq (⟨"CodewordcableModel", "isOffice", "(I)Z"⟩, 49) := ⟨⟨by decide +kernel, by decide +kernel⟩, List.mem_of_getElem? (i := 946) (by decide +kernel), List.mem_of_getElem? (i := 1172) (by decide +kernel), List.mem_of_getElem? (i := 1173) (by decide +kernel)⟩
theorem lw_p36 : lw_okq (⟨"CodewordcableModel", "isCable", "(I)Z"⟩, 49) := ⟨⟨by decide +kernel, by decide +kernel⟩, List.mem_of_getElem? (i := 946) (by decide +kernel), List.mem_of_getElem? (i := 1180) (by decide +kernel), List.mem_of_getElem? (i := 1181) (by decide +kernel)⟩
theorem lw_p37 : lw_okq (⟨"CodewordcableModel", "cableOf", "(I)I"⟩, 49) := ⟨⟨by decide +kernel, by decide +kernel⟩, List.mem_of_getElem? (i := 946) (by decide +kernel), List.mem_of_getElem? (i := 1184) (by decide +kernel), List.mem_of_getElem? (i := 1185) (by decide +kernel)⟩
theorem lw_p38 : lw_okq (⟨"CodewordcableModel", "rulesAt", "(I)I"⟩, 49) := ⟨⟨by decide +kernel, by decide +kernel⟩, List.mem_of_getElem? (i := 946) (by decide +kernel), List.mem_of_getElem? (i := 1204) (by decide +kernel), List.mem_of_getElem? (i := 1205) (by decide +kernel)⟩
theorem lw_p39 : lw_okq (⟨"CodewordcableModel", "packs", "(IZ)V"⟩, 49) := ⟨⟨by decide +kernel, by decide +kernel⟩, List.mem_of_getElem? (i := 946) (by decide +kernel), List.mem_of_getElem? (i := 1216) (by decide +kernel), List.mem_of_getElem? (i := 1217) (by decide +kernel)⟩
theorem lw_p40 : lw_okq (⟨"CodewordcableModel", "allPlain", "(I)I"⟩, 49) := ⟨⟨by decide +kernel, by decide +kernel⟩, List.mem_of_getElem? (i := 946) (by decide +kernel), List.mem_of_getElem? (i := 1220) (by decide +kernel), List.mem_of_getElem? (i := 1221) (by decide +kernel)⟩
theorem lw_p41 : lw_okq (⟨"CodewordcableModel", "plainAt", "(II)I"⟩, 49) := ⟨⟨by decide +kernel, by decide +kernel⟩, List.mem_of_getElem? (i := 946) (by decide +kernel), List.mem_of_getElem? (i := 1224) (by decide +kernel), List.mem_of_getElem? (i := 1225) (by decide +kernel)⟩
theorem lw_p42 : lw_okq (⟨"CodewordcableModel", "reckons", "(I)V"⟩, 49) := ⟨⟨by decide +kernel, by decide +kernel⟩, List.mem_of_getElem? (i := 946) (by decide +kernel), List.mem_of_getElem? (i := 1231) (by decide +kernel), List.mem_of_getElem? (i := 1232) (by decide +kernel)⟩
theorem lw_p43 : lw_okq (⟨"CodewordcableModel", "entryAt", "(III)I"⟩, 49) := ⟨⟨by decide +kernel, by decide +kernel⟩, List.mem_of_getElem? (i := 946) (by decide +kernel), List.mem_of_getElem? (i := 1236) (by decide +kernel), List.mem_of_getElem? (i := 1237) (by decide +kernel)⟩
theorem lw_p44 : lw_okq (⟨"CodewordcableModel", "sentAs", "(II)I"⟩, 49) := ⟨⟨by decide +kernel, by decide +kernel⟩, List.mem_of_getElem? (i := 946) (by decide +kernel), List.mem_of_getElem? (i := 1240) (by decide +kernel), List.mem_of_getElem? (i := 1241) (by decide +kernel)⟩
theorem lw_p45 : lw_okq (⟨"CodewordcableModel", "cuts", "(II)V"⟩, 49) := ⟨⟨by decide +kernel, by decide +kernel⟩, List.mem_of_getElem? (i := 946) (by decide +kernel), List.mem_of_getElem? (i := 1247) (by decide +kernel), List.mem_of_getElem? (i := 1248) (by decide +kernel)⟩
theorem lw_p46 : lw_okq (⟨"CodewordcableModel", "hasRoute", "(II)Z"⟩, 49) := ⟨⟨by decide +kernel, by decide +kernel⟩, List.mem_of_getElem? (i := 946) (by decide +kernel), List.mem_of_getElem? (i := 1255) (by decide +kernel), List.mem_of_getElem? (i := 1256) (by decide +kernel)⟩
theorem lw_p47 : lw_okq (⟨"CodewordcableModel", "reaches", "(I)V"⟩, 49) := ⟨⟨by decide +kernel, by decide +kernel⟩, List.mem_of_getElem? (i := 946) (by decide +kernel), List.mem_of_getElem? (i := 1259) (by decide +kernel), List.mem_of_getElem? (i := 1260) (by decide +kernel)⟩
def lw_privs_3 : List (MethodName × Nat) := [(⟨"CodewordcableModel", "candidatesOf", "(I)I"⟩, 49), (⟨"CodewordcableModel", "candidateAt", "(II)I"⟩, 49), (⟨"CodewordcableModel", "isInBook", "(I)Z"⟩, 49), (⟨"CodewordcableModel", "isOffice", "(I)Z"⟩, 49), (⟨"CodewordcableModel", "isCable", "(I)Z"⟩, 49), (⟨"CodewordcableModel", "cableOf", "(I)I"⟩, 49), (⟨"CodewordcableModel", "rulesAt", "(I)I"⟩, 49), (⟨"CodewordcableModel", "packs", "(IZ)V"⟩, 49), (⟨"CodewordcableModel", "allPlain", "(I)I"⟩, 49), (⟨"CodewordcableModel", "plainAt", "(II)I"⟩, 49), (⟨"CodewordcableModel", "reckons", "(I)V"⟩, 49), (⟨"CodewordcableModel", "entryAt", "(III)I"⟩, 49), (⟨"CodewordcableModel", "sentAs", "(II)I"⟩, 49), (⟨"CodewordcableModel", "cuts", "(II)V"⟩, 49), (⟨"CodewordcableModel", "hasRoute", "(II)Z"⟩, 49), (⟨"CodewordcableModel", "reaches", "(I)V"⟩, 49)]
theorem lw_r3 : ∀ q ∈ lw_privs_3, lw_okq q := List.forall_mem_cons.mpr ⟨lw_p32, List.forall_mem_cons.mpr ⟨lw_p33, List.forall_mem_cons.mpr ⟨lw_p34, List.forall_mem_cons.mpr ⟨lw_p35, List.forall_mem_cons.mpr ⟨lw_p36, List.forall_mem_cons.mpr ⟨lw_p37, List.forall_mem_cons.mpr ⟨lw_p38, List.forall_mem_cons.mpr ⟨lw_p39, List.forall_mem_cons.mpr ⟨lw_p40, List.forall_mem_cons.mpr ⟨lw_p41, List.forall_mem_cons.mpr ⟨lw_p42, List.forall_mem_cons.mpr ⟨lw_p43, List.forall_mem_cons.mpr ⟨lw_p44, List.forall_mem_cons.mpr ⟨lw_p45, List.forall_mem_cons.mpr ⟨lw_p46, List.forall_mem_cons.mpr ⟨lw_p47, fun _ h => absurd h List.not_mem_nil⟩⟩⟩⟩⟩⟩⟩⟩⟩⟩⟩⟩⟩⟩⟩⟩
theorem lw_p48 : lw_okq (⟨"CodewordcableModel", "end", "(II)I"⟩, 49) := ⟨⟨by decide +kernel, by decide +kernel⟩, List.mem_of_getElem? (i := 946) (by decide +kernel), List.mem_of_getElem? (i := 1263) (by decide +kernel), List.mem_of_getElem? (i := 1264) (by decide +kernel)⟩
theorem lw_p49 : lw_okq (⟨"CodewordcableModel", "comes", "(II)V"⟩, 49) := ⟨⟨by decide +kernel, by decide +kernel⟩, List.mem_of_getElem? (i := 946) (by decide +kernel), List.mem_of_getElem? (i := 1267) (by decide +kernel), List.mem_of_getElem? (i := 1268) (by decide +kernel)⟩
theorem lw_p50 : lw_okq (⟨"CodewordcableModel", "isMessage", "(I)Z"⟩, 49) := ⟨⟨by decide +kernel, by decide +kernel⟩, List.mem_of_getElem? (i := 946) (by decide +kernel), List.mem_of_getElem? (i := 1275) (by decide +kernel), List.mem_of_getElem? (i := 1276) (by decide +kernel)⟩
theorem lw_p51 : lw_okq (⟨"CodewordcableModel", "isCodeAt", "(II)Z"⟩, 49) := ⟨⟨by decide +kernel, by decide +kernel⟩, List.mem_of_getElem? (i := 946) (by decide +kernel), List.mem_of_getElem? (i := 1279) (by decide +kernel), List.mem_of_getElem? (i := 1280) (by decide +kernel)⟩
theorem lw_p52 : lw_okq (⟨"CodewordcableModel", "carries", "()V"⟩, 49) := ⟨⟨by decide +kernel, by decide +kernel⟩, List.mem_of_getElem? (i := 946) (by decide +kernel), List.mem_of_getElem? (i := 1287) (by decide +kernel), List.mem_of_getElem? (i := 1288) (by decide +kernel)⟩
theorem lw_p53 : lw_okq (⟨"CodewordcableModel", "carry", "(II)I"⟩, 49) := ⟨⟨by decide +kernel, by decide +kernel⟩, List.mem_of_getElem? (i := 946) (by decide +kernel), List.mem_of_getElem? (i := 1291) (by decide +kernel), List.mem_of_getElem? (i := 1292) (by decide +kernel)⟩
theorem lw_p54 : lw_okq (⟨"CodewordcableModel", "behind", "(I)I"⟩, 49) := ⟨⟨by decide +kernel, by decide +kernel⟩, List.mem_of_getElem? (i := 946) (by decide +kernel), List.mem_of_getElem? (i := 1295) (by decide +kernel), List.mem_of_getElem? (i := 1296) (by decide +kernel)⟩
theorem lw_p55 : lw_okq (⟨"CodewordcableModel", "readAs", "(II)I"⟩, 49) := ⟨⟨by decide +kernel, by decide +kernel⟩, List.mem_of_getElem? (i := 946) (by decide +kernel), List.mem_of_getElem? (i := 1315) (by decide +kernel), List.mem_of_getElem? (i := 1316) (by decide +kernel)⟩
def lw_privs_4 : List (MethodName × Nat) := [(⟨"CodewordcableModel", "end", "(II)I"⟩, 49), (⟨"CodewordcableModel", "comes", "(II)V"⟩, 49), (⟨"CodewordcableModel", "isMessage", "(I)Z"⟩, 49), (⟨"CodewordcableModel", "isCodeAt", "(II)Z"⟩, 49), (⟨"CodewordcableModel", "carries", "()V"⟩, 49), (⟨"CodewordcableModel", "carry", "(II)I"⟩, 49), (⟨"CodewordcableModel", "behind", "(I)I"⟩, 49), (⟨"CodewordcableModel", "readAs", "(II)I"⟩, 49)]
theorem lw_r4 : ∀ q ∈ lw_privs_4, lw_okq q := List.forall_mem_cons.mpr ⟨lw_p48, List.forall_mem_cons.mpr ⟨lw_p49, List.forall_mem_cons.mpr ⟨lw_p50, List.forall_mem_cons.mpr ⟨lw_p51, List.forall_mem_cons.mpr ⟨lw_p52, List.forall_mem_cons.mpr ⟨lw_p53, List.forall_mem_cons.mpr ⟨lw_p54, List.forall_mem_cons.mpr ⟨lw_p55, fun _ h => absurd h List.not_mem_nil⟩⟩⟩⟩⟩⟩⟩⟩
def lw_privs : List (MethodName × Nat) := lw_privs_1 ++ (lw_privs_2 ++ (lw_privs_3 ++ (lw_privs_4)))
def lw_tbl : List Cond := k2_sels lw_privs ++ tables_1
theorem lw_privs_ok : ∀ q ∈ lw_privs, lw_okq q := by
  show ∀ q ∈ lw_privs_1 ++ (lw_privs_2 ++ (lw_privs_3 ++ (lw_privs_4))), lw_okq q
  exact List.forall_mem_append.mpr ⟨lw_r1, List.forall_mem_append.mpr ⟨lw_r2, List.forall_mem_append.mpr ⟨lw_r3, lw_r4⟩⟩⟩
-- ===== end of PART A; then your names; then what follows =====
def RX0 : String := "Codewordcable$Book"
def TX0 : u_T := fun k => match k with
  | 0 => ("Codewordcable$Book", "letters", "[I", true)
  | 1 => ("Codewordcable$Book", "codes", "[I", true)
  | 2 => ("Codewordcable$Book", "phrases", "[I", true)
  | 3 => ("Codewordcable$Book", "finds", "[I", true)
  | 4 => ("Codewordcable$Book", "ideaCount", "I", false)
  | 5 => ("Codewordcable$Book", "entryCount", "I", false)
  | _ => ("Codewordcable$Book", "findCount", "I", false)
def tyX0 : Nat → FieldType := fun k => match k with
  | 0 => .array .int
  | 1 => .array .int
  | 2 => .array .int
  | 3 => .array .int
  | 4 => .int
  | 5 => .int
  | _ => .int
theorem nmX0 : ∀ a, a < 7 → ∀ b, b < 7 → a ≠ b → (TX0 a).2.1 ≠ (TX0 b).2.1 := by decide +kernel
theorem tyX0_ok : ∀ k, k < 7 → parseFieldDescriptor (TX0 k).2.2.1 = some (tyX0 k) := by decide +kernel
abbrev cX0_init : ByteArray := prog_2_method_1_code
def yX0_init : MethodName := ⟨RX0, "<init>", "()V"⟩
abbrev cX0_addIdea : ByteArray := prog_2_method_2_code
def yX0_addIdea : MethodName := ⟨RX0, "addIdea", "(I)I"⟩
abbrev cX0_hasIdea : ByteArray := prog_2_method_3_code
def yX0_hasIdea : MethodName := ⟨RX0, "hasIdea", "(I)Z"⟩
abbrev cX0_hasIdeaOrNone : ByteArray := prog_2_method_4_code
def yX0_hasIdeaOrNone : MethodName := ⟨RX0, "hasIdeaOrNone", "(I)Z"⟩
abbrev cX0_lettersOf : ByteArray := prog_2_method_5_code
def yX0_lettersOf : MethodName := ⟨RX0, "lettersOf", "(I)I"⟩
abbrev cX0_hasEntry : ByteArray := prog_2_method_6_code
def yX0_hasEntry : MethodName := ⟨RX0, "hasEntry", "(I)Z"⟩
abbrev cX0_codeOf : ByteArray := prog_2_method_7_code
def yX0_codeOf : MethodName := ⟨RX0, "codeOf", "(I)I"⟩
abbrev cX0_ideaIn : ByteArray := prog_2_method_8_code
def yX0_ideaIn : MethodName := ⟨RX0, "ideaIn", "(II)I"⟩
abbrev cX0_phraseLength : ByteArray := prog_2_method_9_code
def yX0_phraseLength : MethodName := ⟨RX0, "phraseLength", "(I)I"⟩
abbrev cX0_hasPhrase : ByteArray := prog_2_method_10_code
def yX0_hasPhrase : MethodName := ⟨RX0, "hasPhrase", "(IIII)Z"⟩
abbrev cX0_hasCodeNear : ByteArray := prog_2_method_11_code
def yX0_hasCodeNear : MethodName := ⟨RX0, "hasCodeNear", "(I)Z"⟩
abbrev cX0_addEntry : ByteArray := prog_2_method_12_code
def yX0_addEntry : MethodName := ⟨RX0, "addEntry", "(IIIII)I"⟩
abbrev cX0_entryFor : ByteArray := prog_2_method_13_code
def yX0_entryFor : MethodName := ⟨RX0, "entryFor", "(LCodewordcable$Draft;II)I"⟩
abbrev cX0_standsAt : ByteArray := prog_2_method_14_code
def yX0_standsAt : MethodName := ⟨RX0, "standsAt", "(ILCodewordcable$Draft;II)Z"⟩
abbrev cX0_shifted : ByteArray := prog_2_method_15_code
def yX0_shifted : MethodName := ⟨RX0, "shifted", "(II)I"⟩
abbrev cX0_search : ByteArray := prog_2_method_16_code
def yX0_search : MethodName := ⟨RX0, "search", "(I)V"⟩
abbrev cX0_addFind : ByteArray := prog_2_method_17_code
def yX0_addFind : MethodName := ⟨RX0, "addFind", "(I)V"⟩
abbrev cX0_findAt : ByteArray := prog_2_method_18_code
def yX0_findAt : MethodName := ⟨RX0, "findAt", "(I)I"⟩
abbrev cX0_onlyFind : ByteArray := prog_2_method_19_code
def yX0_onlyFind : MethodName := ⟨RX0, "onlyFind", "(I)I"⟩
def RX1 : String := "Codewordcable$Cable"
def TX1 : u_T := fun k => match k with
  | 0 => ("Codewordcable$Cable", "administration", "I", true)
  | 1 => ("Codewordcable$Cable", "other", "I", true)
  | 2 => ("Codewordcable$Cable", "rate", "I", true)
  | 3 => ("Codewordcable$Cable", "speed", "I", true)
  | 4 => ("Codewordcable$Cable", "isBroken", "Z", false)
  | _ => ("Codewordcable$Cable", "room", "I", false)
def tyX1 : Nat → FieldType := fun k => match k with
  | 0 => .int
  | 1 => .int
  | 2 => .int
  | 3 => .int
  | 4 => .boolean
  | _ => .int
theorem nmX1 : ∀ a, a < 6 → ∀ b, b < 6 → a ≠ b → (TX1 a).2.1 ≠ (TX1 b).2.1 := by decide +kernel
theorem tyX1_ok : ∀ k, k < 6 → parseFieldDescriptor (TX1 k).2.2.1 = some (tyX1 k) := by decide +kernel
abbrev cX1_init : ByteArray := prog_3_method_1_code
def yX1_init : MethodName := ⟨RX1, "<init>", "(IIII)V"⟩
abbrev cX1_touches : ByteArray := prog_3_method_2_code
def yX1_touches : MethodName := ⟨RX1, "touches", "(I)Z"⟩
abbrev cX1_otherEnd : ByteArray := prog_3_method_3_code
def yX1_otherEnd : MethodName := ⟨RX1, "otherEnd", "(I)I"⟩
def RX2 : String := "Codewordcable$Draft"
def TX2 : u_T := fun k => match k with
  | 0 => ("Codewordcable$Draft", "ideas", "[I", true)
  | _ => ("Codewordcable$Draft", "count", "I", false)
def tyX2 : Nat → FieldType := fun k => match k with
  | 0 => .array .int
  | _ => .int
theorem nmX2 : ∀ a, a < 2 → ∀ b, b < 2 → a ≠ b → (TX2 a).2.1 ≠ (TX2 b).2.1 := by decide +kernel
theorem tyX2_ok : ∀ k, k < 2 → parseFieldDescriptor (TX2 k).2.2.1 = some (tyX2 k) := by decide +kernel
abbrev cX2_init : ByteArray := prog_4_method_1_code
def yX2_init : MethodName := ⟨RX2, "<init>", "()V"⟩
abbrev cX2_add : ByteArray := prog_4_method_2_code
def yX2_add : MethodName := ⟨RX2, "add", "(I)Z"⟩
abbrev cX2_ideaAt : ByteArray := prog_4_method_3_code
def yX2_ideaAt : MethodName := ⟨RX2, "ideaAt", "(I)I"⟩
def RX3 : String := "Codewordcable$Message"
def TX3 : u_T := fun k => match k with
  | 0 => ("Codewordcable$Message", "from", "I", true)
  | 1 => ("Codewordcable$Message", "to", "I", true)
  | 2 => ("Codewordcable$Message", "kind", "I", true)
  | 3 => ("Codewordcable$Message", "paid", "I", true)
  | 4 => ("Codewordcable$Message", "price", "I", true)
  | 5 => ("Codewordcable$Message", "hasCode", "Z", true)
  | 6 => ("Codewordcable$Message", "sent", "[I", true)
  | 7 => ("Codewordcable$Message", "now", "[I", true)
  | 8 => ("Codewordcable$Message", "route", "[I", true)
  | 9 => ("Codewordcable$Message", "state", "I", false)
  | 10 => ("Codewordcable$Message", "at", "I", false)
  | 11 => ("Codewordcable$Message", "leg", "I", false)
  | _ => ("Codewordcable$Message", "left", "I", false)
def tyX3 : Nat → FieldType := fun k => match k with
  | 0 => .int
  | 1 => .int
  | 2 => .int
  | 3 => .int
  | 4 => .int
  | 5 => .boolean
  | 6 => .array .int
  | 7 => .array .int
  | 8 => .array .int
  | 9 => .int
  | 10 => .int
  | 11 => .int
  | _ => .int
theorem nmX3 : ∀ a, a < 13 → ∀ b, b < 13 → a ≠ b → (TX3 a).2.1 ≠ (TX3 b).2.1 := by decide +kernel
theorem tyX3_ok : ∀ k, k < 13 → parseFieldDescriptor (TX3 k).2.2.1 = some (tyX3 k) := by decide +kernel
abbrev cX3_init : ByteArray := prog_5_method_1_code
def yX3_init : MethodName := ⟨RX3, "<init>", "(IIILCodewordcable$Packer;LCodewordcable$Net;)V"⟩
abbrev cX3_priceAt : ByteArray := prog_5_method_2_code
def yX3_priceAt : MethodName := ⟨RX3, "priceAt", "(I)I"⟩
abbrev cX3_hasWord : ByteArray := prog_5_method_3_code
def yX3_hasWord : MethodName := ⟨RX3, "hasWord", "(I)Z"⟩
abbrev cX3_wordSent : ByteArray := prog_5_method_4_code
def yX3_wordSent : MethodName := ⟨RX3, "wordSent", "(I)I"⟩
abbrev cX3_wordNow : ByteArray := prog_5_method_5_code
def yX3_wordNow : MethodName := ⟨RX3, "wordNow", "(I)I"⟩
abbrev cX3_change : ByteArray := prog_5_method_6_code
def yX3_change : MethodName := ⟨RX3, "change", "(II)V"⟩
abbrev cX3_cableNow : ByteArray := prog_5_method_7_code
def yX3_cableNow : MethodName := ⟨RX3, "cableNow", "()I"⟩
def RX4 : String := "Codewordcable$Net"
def TX4 : u_T := fun k => match k with
  | 0 => ("Codewordcable$Net", "offices", "[LCodewordcable$Office;", true)
  | 1 => ("Codewordcable$Net", "cables", "[LCodewordcable$Cable;", true)
  | 2 => ("Codewordcable$Net", "costs", "[I", true)
  | 3 => ("Codewordcable$Net", "route", "[I", true)
  | 4 => ("Codewordcable$Net", "officeCount", "I", false)
  | 5 => ("Codewordcable$Net", "cableCount", "I", false)
  | _ => ("Codewordcable$Net", "routeLength", "I", false)
def tyX4 : Nat → FieldType := fun k => match k with
  | 0 => .array (.object "Codewordcable$Office")
  | 1 => .array (.object "Codewordcable$Cable")
  | 2 => .array .int
  | 3 => .array .int
  | 4 => .int
  | 5 => .int
  | _ => .int
theorem nmX4 : ∀ a, a < 7 → ∀ b, b < 7 → a ≠ b → (TX4 a).2.1 ≠ (TX4 b).2.1 := by decide +kernel
theorem tyX4_ok : ∀ k, k < 7 → parseFieldDescriptor (TX4 k).2.2.1 = some (tyX4 k) := by decide +kernel
abbrev cX4_init : ByteArray := prog_6_method_1_code
def yX4_init : MethodName := ⟨RX4, "<init>", "()V"⟩
abbrev cX4_addOffice : ByteArray := prog_6_method_2_code
def yX4_addOffice : MethodName := ⟨RX4, "addOffice", "()I"⟩
abbrev cX4_officeAt : ByteArray := prog_6_method_3_code
def yX4_officeAt : MethodName := ⟨RX4, "officeAt", "(I)LCodewordcable$Office;"⟩
abbrev cX4_addCable : ByteArray := prog_6_method_4_code
def yX4_addCable : MethodName := ⟨RX4, "addCable", "(IIII)I"⟩
abbrev cX4_cableAt : ByteArray := prog_6_method_5_code
def yX4_cableAt : MethodName := ⟨RX4, "cableAt", "(I)LCodewordcable$Cable;"⟩
abbrev cX4_startMinute : ByteArray := prog_6_method_6_code
def yX4_startMinute : MethodName := ⟨RX4, "startMinute", "()V"⟩
abbrev cX4_findRoute : ByteArray := prog_6_method_7_code
def yX4_findRoute : MethodName := ⟨RX4, "findRoute", "(II)Z"⟩
abbrev cX4_costOf : ByteArray := prog_6_method_8_code
def yX4_costOf : MethodName := ⟨RX4, "costOf", "(LCodewordcable$Cable;)I"⟩
abbrev cX4_findCosts : ByteArray := prog_6_method_9_code
def yX4_findCosts : MethodName := ⟨RX4, "findCosts", "(I)V"⟩
abbrev cX4_lowerCost : ByteArray := prog_6_method_10_code
def yX4_lowerCost : MethodName := ⟨RX4, "lowerCost", "(ILCodewordcable$Cable;)V"⟩
abbrev cX4_costFrom : ByteArray := prog_6_method_11_code
def yX4_costFrom : MethodName := ⟨RX4, "costFrom", "(I)I"⟩
abbrev cX4_setCost : ByteArray := prog_6_method_12_code
def yX4_setCost : MethodName := ⟨RX4, "setCost", "(II)V"⟩
abbrev cX4_nextCable : ByteArray := prog_6_method_13_code
def yX4_nextCable : MethodName := ⟨RX4, "nextCable", "(I)I"⟩
abbrev cX4_routeRate : ByteArray := prog_6_method_14_code
def yX4_routeRate : MethodName := ⟨RX4, "routeRate", "()I"⟩
def RX5 : String := "Codewordcable$Office"
def TX5 : u_T := fun k => match k with
  | 0 => ("Codewordcable$Office", "reserved", "[Z", true)
  | 1 => ("Codewordcable$Office", "key", "I", false)
  | 2 => ("Codewordcable$Office", "forbidsCode", "Z", false)
  | _ => ("Codewordcable$Office", "balance", "I", false)
def tyX5 : Nat → FieldType := fun k => match k with
  | 0 => .array .boolean
  | 1 => .int
  | 2 => .boolean
  | _ => .int
theorem nmX5 : ∀ a, a < 4 → ∀ b, b < 4 → a ≠ b → (TX5 a).2.1 ≠ (TX5 b).2.1 := by decide +kernel
theorem tyX5_ok : ∀ k, k < 4 → parseFieldDescriptor (TX5 k).2.2.1 = some (tyX5 k) := by decide +kernel
abbrev cX5_init : ByteArray := prog_7_method_1_code
def yX5_init : MethodName := ⟨RX5, "<init>", "()V"⟩
abbrev cX5_reserveRules : ByteArray := prog_7_method_2_code
def yX5_reserveRules : MethodName := ⟨RX5, "reserveRules", "(I)V"⟩
abbrev cX5_reserves : ByteArray := prog_7_method_3_code
def yX5_reserves : MethodName := ⟨RX5, "reserves", "(I)Z"⟩
def RX6 : String := "Codewordcable$Packer"
def TX6 : u_T := fun k => match k with
  | 0 => ("Codewordcable$Packer", "book", "LCodewordcable$Book;", true)
  | 1 => ("Codewordcable$Packer", "codes", "[I", true)
  | 2 => ("Codewordcable$Packer", "least", "[I", true)
  | 3 => ("Codewordcable$Packer", "words", "[I", true)
  | 4 => ("Codewordcable$Packer", "wordCount", "I", false)
  | 5 => ("Codewordcable$Packer", "codeCount", "I", false)
  | _ => ("Codewordcable$Packer", "paid", "I", false)
def tyX6 : Nat → FieldType := fun k => match k with
  | 0 => .object "Codewordcable$Book"
  | 1 => .array .int
  | 2 => .array .int
  | 3 => .array .int
  | 4 => .int
  | 5 => .int
  | _ => .int
theorem nmX6 : ∀ a, a < 7 → ∀ b, b < 7 → a ≠ b → (TX6 a).2.1 ≠ (TX6 b).2.1 := by decide +kernel
theorem tyX6_ok : ∀ k, k < 7 → parseFieldDescriptor (TX6 k).2.2.1 = some (tyX6 k) := by decide +kernel
abbrev cX6_init : ByteArray := prog_8_method_1_code
def yX6_init : MethodName := ⟨RX6, "<init>", "(LCodewordcable$Book;)V"⟩
abbrev cX6_wordAt : ByteArray := prog_8_method_2_code
def yX6_wordAt : MethodName := ⟨RX6, "wordAt", "(I)I"⟩
abbrev cX6_fill : ByteArray := prog_8_method_3_code
def yX6_fill : MethodName := ⟨RX6, "fill", "(LCodewordcable$Draft;ILCodewordcable$Rules;Z)V"⟩
abbrev cX6_plainCost : ByteArray := prog_8_method_4_code
def yX6_plainCost : MethodName := ⟨RX6, "plainCost", "(LCodewordcable$Draft;LCodewordcable$Rules;)I"⟩
abbrev cX6_findCodes : ByteArray := prog_8_method_5_code
def yX6_findCodes : MethodName := ⟨RX6, "findCodes", "(LCodewordcable$Draft;ILCodewordcable$Rules;)V"⟩
abbrev cX6_codeFor : ByteArray := prog_8_method_6_code
def yX6_codeFor : MethodName := ⟨RX6, "codeFor", "(II)I"⟩
abbrev cX6_findLeast : ByteArray := prog_8_method_7_code
def yX6_findLeast : MethodName := ⟨RX6, "findLeast", "(LCodewordcable$Draft;LCodewordcable$Rules;)V"⟩
abbrev cX6_leastFrom : ByteArray := prog_8_method_8_code
def yX6_leastFrom : MethodName := ⟨RX6, "leastFrom", "(II)I"⟩
abbrev cX6_setLeast : ByteArray := prog_8_method_9_code
def yX6_setLeast : MethodName := ⟨RX6, "setLeast", "(III)V"⟩
abbrev cX6_chooseCount : ByteArray := prog_8_method_10_code
def yX6_chooseCount : MethodName := ⟨RX6, "chooseCount", "(LCodewordcable$Draft;LCodewordcable$Rules;)V"⟩
abbrev cX6_cut : ByteArray := prog_8_method_11_code
def yX6_cut : MethodName := ⟨RX6, "cut", "(LCodewordcable$Draft;LCodewordcable$Rules;)V"⟩
abbrev cX6_longestCode : ByteArray := prog_8_method_12_code
def yX6_longestCode : MethodName := ⟨RX6, "longestCode", "(II)I"⟩
abbrev cX6_addWord : ByteArray := prog_8_method_13_code
def yX6_addWord : MethodName := ⟨RX6, "addWord", "(I)V"⟩
def RX7 : String := "Codewordcable$Rules"
def TX7 : u_T := fun k => match k with
  | 0 => ("Codewordcable$Rules", "number", "I", true)
  | 1 => ("Codewordcable$Rules", "day", "I", true)
  | 2 => ("Codewordcable$Rules", "plain", "I", true)
  | 3 => ("Codewordcable$Rules", "code", "I", true)
  | _ => ("Codewordcable$Rules", "vowels", "I", true)
def tyX7 : Nat → FieldType := fun k => match k with
  | 0 => .int
  | 1 => .int
  | 2 => .int
  | 3 => .int
  | _ => .int
theorem nmX7 : ∀ a, a < 5 → ∀ b, b < 5 → a ≠ b → (TX7 a).2.1 ≠ (TX7 b).2.1 := by decide +kernel
theorem tyX7_ok : ∀ k, k < 5 → parseFieldDescriptor (TX7 k).2.2.1 = some (tyX7 k) := by decide +kernel
abbrev cX7_init : ByteArray := prog_9_method_1_code
def yX7_init : MethodName := ⟨RX7, "<init>", "(IIIII)V"⟩
def RX8 : String := "Codewordcable"
def TX8 : u_T := fun k => match k with
  | 0 => ("Codewordcable", "book", "LCodewordcable$Book;", true)
  | 1 => ("Codewordcable", "packer", "LCodewordcable$Packer;", true)
  | 2 => ("Codewordcable", "draft", "LCodewordcable$Draft;", true)
  | 3 => ("Codewordcable", "net", "LCodewordcable$Net;", true)
  | 4 => ("Codewordcable", "firstRules", "LCodewordcable$Rules;", true)
  | 5 => ("Codewordcable", "conferences", "[LCodewordcable$Rules;", true)
  | 6 => ("Codewordcable", "messages", "[LCodewordcable$Message;", true)
  | 7 => ("Codewordcable", "conferenceCount", "I", false)
  | 8 => ("Codewordcable", "messageCount", "I", false)
  | _ => ("Codewordcable", "minute", "I", false)
def tyX8 : Nat → FieldType := fun k => match k with
  | 0 => .object "Codewordcable$Book"
  | 1 => .object "Codewordcable$Packer"
  | 2 => .object "Codewordcable$Draft"
  | 3 => .object "Codewordcable$Net"
  | 4 => .object "Codewordcable$Rules"
  | 5 => .array (.object "Codewordcable$Rules")
  | 6 => .array (.object "Codewordcable$Message")
  | 7 => .int
  | 8 => .int
  | _ => .int
theorem nmX8 : ∀ a, a < 10 → ∀ b, b < 10 → a ≠ b → (TX8 a).2.1 ≠ (TX8 b).2.1 := by decide +kernel
theorem tyX8_ok : ∀ k, k < 10 → parseFieldDescriptor (TX8 k).2.2.1 = some (tyX8 k) := by decide +kernel
abbrev cX8_init : ByteArray := prog_1_method_1_code
def yX8_init : MethodName := ⟨RX8, "<init>", "()V"⟩
abbrev cX8_idea : ByteArray := prog_1_method_2_code
def yX8_idea : MethodName := ⟨RX8, "idea", "(I)I"⟩
abbrev cX8_entry : ByteArray := prog_1_method_3_code
def yX8_entry : MethodName := ⟨RX8, "entry", "(IIIII)I"⟩
abbrev cX8_candidates : ByteArray := prog_1_method_4_code
def yX8_candidates : MethodName := ⟨RX8, "candidates", "(I)I"⟩
abbrev cX8_candidate : ByteArray := prog_1_method_5_code
def yX8_candidate : MethodName := ⟨RX8, "candidate", "(II)I"⟩
abbrev cX8_office : ByteArray := prog_1_method_6_code
def yX8_office : MethodName := ⟨RX8, "office", "()I"⟩
abbrev cX8_cable : ByteArray := prog_1_method_7_code
def yX8_cable : MethodName := ⟨RX8, "cable", "(IIII)I"⟩
abbrev cX8_broken : ByteArray := prog_1_method_8_code
def yX8_broken : MethodName := ⟨RX8, "broken", "(IZ)I"⟩
abbrev cX8_forbid : ByteArray := prog_1_method_9_code
def yX8_forbid : MethodName := ⟨RX8, "forbid", "(IZ)Z"⟩
abbrev cX8_key : ByteArray := prog_1_method_10_code
def yX8_key : MethodName := ⟨RX8, "key", "(II)I"⟩
abbrev cX8_conference : ByteArray := prog_1_method_11_code
def yX8_conference : MethodName := ⟨RX8, "conference", "(IIII)I"⟩
abbrev cX8_reserve : ByteArray := prog_1_method_12_code
def yX8_reserve : MethodName := ⟨RX8, "reserve", "(II)I"⟩
abbrev cX8_draft : ByteArray := prog_1_method_13_code
def yX8_draft : MethodName := ⟨RX8, "draft", "(I)I"⟩
abbrev cX8_words : ByteArray := prog_1_method_14_code
def yX8_words : MethodName := ⟨RX8, "words", "(IZ)I"⟩
abbrev cX8_send : ByteArray := prog_1_method_15_code
def yX8_send : MethodName := ⟨RX8, "send", "(IIIZ)I"⟩
abbrev cX8_wrong : ByteArray := prog_1_method_16_code
def yX8_wrong : MethodName := ⟨RX8, "wrong", "(IIII)I"⟩
abbrev cX8_pass : ByteArray := prog_1_method_17_code
def yX8_pass : MethodName := ⟨RX8, "pass", "(I)I"⟩
abbrev cX8_rest : ByteArray := prog_1_method_18_code
def yX8_rest : MethodName := ⟨RX8, "rest", "(I)I"⟩
abbrev cX8_ofMessage : ByteArray := prog_1_method_19_code
def yX8_ofMessage : MethodName := ⟨RX8, "ofMessage", "(II)I"⟩
abbrev cX8_word : ByteArray := prog_1_method_20_code
def yX8_word : MethodName := ⟨RX8, "word", "(IIZ)I"⟩
abbrev cX8_read : ByteArray := prog_1_method_21_code
def yX8_read : MethodName := ⟨RX8, "read", "(II)I"⟩
abbrev cX8_claim : ByteArray := prog_1_method_22_code
def yX8_claim : MethodName := ⟨RX8, "claim", "(I)I"⟩
abbrev cX8_account : ByteArray := prog_1_method_23_code
def yX8_account : MethodName := ⟨RX8, "account", "(I)I"⟩
abbrev cX8_accountAnew : ByteArray := prog_1_method_24_code
def yX8_accountAnew : MethodName := ⟨RX8, "accountAnew", "(I)I"⟩
abbrev cX8_messageAt : ByteArray := prog_1_method_25_code
def yX8_messageAt : MethodName := ⟨RX8, "messageAt", "(I)LCodewordcable$Message;"⟩
abbrev cX8_countAtCable : ByteArray := prog_1_method_26_code
def yX8_countAtCable : MethodName := ⟨RX8, "countAtCable", "(I)I"⟩
abbrev cX8_rulesAt : ByteArray := prog_1_method_27_code
def yX8_rulesAt : MethodName := ⟨RX8, "rulesAt", "(LCodewordcable$Office;)LCodewordcable$Rules;"⟩
abbrev cX8_settle : ByteArray := prog_1_method_28_code
def yX8_settle : MethodName := ⟨RX8, "settle", "(LCodewordcable$Message;)V"⟩
abbrev cX8_shareIn : ByteArray := prog_1_method_29_code
def yX8_shareIn : MethodName := ⟨RX8, "shareIn", "(LCodewordcable$Message;I)I"⟩
abbrev cX8_isAnyUnderway : ByteArray := prog_1_method_30_code
def yX8_isAnyUnderway : MethodName := ⟨RX8, "isAnyUnderway", "()Z"⟩
abbrev cX8_carryMinute : ByteArray := prog_1_method_31_code
def yX8_carryMinute : MethodName := ⟨RX8, "carryMinute", "()V"⟩
abbrev cX8_carry : ByteArray := prog_1_method_32_code
def yX8_carry : MethodName := ⟨RX8, "carry", "(LCodewordcable$Message;LCodewordcable$Cable;)V"⟩
abbrev cX8_moveOn : ByteArray := prog_1_method_33_code
def yX8_moveOn : MethodName := ⟨RX8, "moveOn", "(LCodewordcable$Message;LCodewordcable$Cable;)V"⟩
abbrev cX8_comeTo : ByteArray := prog_1_method_34_code
def yX8_comeTo : MethodName := ⟨RX8, "comeTo", "(LCodewordcable$Message;I)V"⟩
abbrev cX8_isOutside : ByteArray := prog_1_method_35_code
def yX8_isOutside : MethodName := ⟨RX8, "isOutside", "(III)Z"⟩
abbrev cX8_roundedUp : ByteArray := prog_1_method_36_code
def yX8_roundedUp : MethodName := ⟨RX8, "roundedUp", "(II)I"⟩
abbrev cX8_isCode : ByteArray := prog_1_method_37_code
def yX8_isCode : MethodName := ⟨RX8, "isCode", "(I)Z"⟩
abbrev cX8_plainOf : ByteArray := prog_1_method_38_code
def yX8_plainOf : MethodName := ⟨RX8, "plainOf", "(I)I"⟩
abbrev cX8_ideaOfPlain : ByteArray := prog_1_method_39_code
def yX8_ideaOfPlain : MethodName := ⟨RX8, "ideaOfPlain", "(I)I"⟩
abbrev cX8_weightOf : ByteArray := prog_1_method_40_code
def yX8_weightOf : MethodName := ⟨RX8, "weightOf", "(I)I"⟩
abbrev cX8_letterOf : ByteArray := prog_1_method_41_code
def yX8_letterOf : MethodName := ⟨RX8, "letterOf", "(II)I"⟩
abbrev cX8_withLetter : ByteArray := prog_1_method_42_code
def yX8_withLetter : MethodName := ⟨RX8, "withLetter", "(III)I"⟩
abbrev cX8_vowelsIn : ByteArray := prog_1_method_43_code
def yX8_vowelsIn : MethodName := ⟨RX8, "vowelsIn", "(I)I"⟩
abbrev cX8_partsOf : ByteArray := prog_1_method_44_code
def yX8_partsOf : MethodName := ⟨RX8, "partsOf", "(II)I"⟩
abbrev cX8_firstPart : ByteArray := prog_1_method_45_code
def yX8_firstPart : MethodName := ⟨RX8, "firstPart", "(II)I"⟩
abbrev cX8_isTurned : ByteArray := prog_1_method_46_code
def yX8_isTurned : MethodName := ⟨RX8, "isTurned", "(II)Z"⟩
def RX9 : String := "CodewordcableModel"
def TX9 : u_T := fun k => match k with
  | 0 => ("CodewordcableModel", "ideas", "I", false)
  | 1 => ("CodewordcableModel", "letters", "[I", true)
  | 2 => ("CodewordcableModel", "entries", "I", false)
  | 3 => ("CodewordcableModel", "word", "[I", true)
  | 4 => ("CodewordcableModel", "phrase", "[I", true)
  | 5 => ("CodewordcableModel", "offices", "I", false)
  | 6 => ("CodewordcableModel", "isForbidden", "[Z", true)
  | 7 => ("CodewordcableModel", "keys", "[I", true)
  | 8 => ("CodewordcableModel", "reserved", "[I", true)
  | 9 => ("CodewordcableModel", "accounts", "[I", true)
  | 10 => ("CodewordcableModel", "cables", "I", false)
  | 11 => ("CodewordcableModel", "administration", "[I", true)
  | 12 => ("CodewordcableModel", "other", "[I", true)
  | 13 => ("CodewordcableModel", "rate", "[I", true)
  | 14 => ("CodewordcableModel", "carries", "[I", true)
  | 15 => ("CodewordcableModel", "isBroken", "[Z", true)
  | 16 => ("CodewordcableModel", "conferences", "I", false)
  | 17 => ("CodewordcableModel", "since", "[I", true)
  | 18 => ("CodewordcableModel", "plain", "[I", true)
  | 19 => ("CodewordcableModel", "code", "[I", true)
  | 20 => ("CodewordcableModel", "vowels", "[I", true)
  | 21 => ("CodewordcableModel", "draft", "[I", true)
  | 22 => ("CodewordcableModel", "inDraft", "I", false)
  | 23 => ("CodewordcableModel", "least", "[I", true)
  | 24 => ("CodewordcableModel", "cut", "[I", true)
  | 25 => ("CodewordcableModel", "cuts", "I", false)
  | 26 => ("CodewordcableModel", "paid", "I", false)
  | 27 => ("CodewordcableModel", "messages", "I", false)
  | 28 => ("CodewordcableModel", "from", "[I", true)
  | 29 => ("CodewordcableModel", "to", "[I", true)
  | 30 => ("CodewordcableModel", "kind", "[I", true)
  | 31 => ("CodewordcableModel", "state", "[I", true)
  | 32 => ("CodewordcableModel", "sentMany", "[I", true)
  | 33 => ("CodewordcableModel", "due", "[I", true)
  | 34 => ("CodewordcableModel", "price", "[I", true)
  | 35 => ("CodewordcableModel", "stoppedAt", "[I", true)
  | 36 => ("CodewordcableModel", "hasCode", "[Z", true)
  | 37 => ("CodewordcableModel", "sent", "[I", true)
  | 38 => ("CodewordcableModel", "now", "[I", true)
  | 39 => ("CodewordcableModel", "route", "[I", true)
  | 40 => ("CodewordcableModel", "routeMany", "[I", true)
  | 41 => ("CodewordcableModel", "step", "[I", true)
  | 42 => ("CodewordcableModel", "carried", "[I", true)
  | 43 => ("CodewordcableModel", "isHere", "[Z", true)
  | 44 => ("CodewordcableModel", "far", "[I", true)
  | 45 => ("CodewordcableModel", "way", "[I", true)
  | 46 => ("CodewordcableModel", "wayMany", "I", false)
  | 47 => ("CodewordcableModel", "minute", "I", false)
  | _ => ("CodewordcableModel", "thrown", "I", false)
def tyX9 : Nat → FieldType := fun k => match k with
  | 0 => .int
  | 1 => .array .int
  | 2 => .int
  | 3 => .array .int
  | 4 => .array .int
  | 5 => .int
  | 6 => .array .boolean
  | 7 => .array .int
  | 8 => .array .int
  | 9 => .array .int
  | 10 => .int
  | 11 => .array .int
  | 12 => .array .int
  | 13 => .array .int
  | 14 => .array .int
  | 15 => .array .boolean
  | 16 => .int
  | 17 => .array .int
  | 18 => .array .int
  | 19 => .array .int
  | 20 => .array .int
  | 21 => .array .int
  | 22 => .int
  | 23 => .array .int
  | 24 => .array .int
  | 25 => .int
  | 26 => .int
  | 27 => .int
  | 28 => .array .int
  | 29 => .array .int
  | 30 => .array .int
  | 31 => .array .int
  | 32 => .array .int
  | 33 => .array .int
  | 34 => .array .int
  | 35 => .array .int
  | 36 => .array .boolean
  | 37 => .array .int
  | 38 => .array .int
  | 39 => .array .int
  | 40 => .array .int
  | 41 => .array .int
  | 42 => .array .int
  | 43 => .array .boolean
  | 44 => .array .int
  | 45 => .array .int
  | 46 => .int
  | 47 => .int
  | _ => .int
theorem nmX9 : ∀ a, a < 49 → ∀ b, b < 49 → a ≠ b → (TX9 a).2.1 ≠ (TX9 b).2.1 := by decide +kernel
theorem tyX9_ok : ∀ k, k < 49 → parseFieldDescriptor (TX9 k).2.2.1 = some (tyX9 k) := by decide +kernel
abbrev cX9_init : ByteArray := prog_11_method_1_code
def yX9_init : MethodName := ⟨RX9, "<init>", "()V"⟩
abbrev cX9_thrown : ByteArray := prog_11_method_2_code
def yX9_thrown : MethodName := ⟨RX9, "thrown", "()I"⟩
abbrev cX9_fails : ByteArray := prog_11_method_3_code
def yX9_fails : MethodName := ⟨RX9, "fails", "(I)I"⟩
abbrev cX9_asks : ByteArray := prog_11_method_4_code
def yX9_asks : MethodName := ⟨RX9, "asks", "(Z)Z"⟩
abbrev cX9_in : ByteArray := prog_11_method_5_code
def yX9_in : MethodName := ⟨RX9, "in", "(III)Z"⟩
abbrev cX9_isIdea : ByteArray := prog_11_method_6_code
def yX9_isIdea : MethodName := ⟨RX9, "isIdea", "(I)Z"⟩
abbrev cX9_isOffice : ByteArray := prog_11_method_7_code
def yX9_isOffice : MethodName := ⟨RX9, "isOffice", "(I)Z"⟩
abbrev cX9_isCable : ByteArray := prog_11_method_8_code
def yX9_isCable : MethodName := ⟨RX9, "isCable", "(I)Z"⟩
abbrev cX9_isMessage : ByteArray := prog_11_method_9_code
def yX9_isMessage : MethodName := ⟨RX9, "isMessage", "(I)Z"⟩
abbrev cX9_isWord : ByteArray := prog_11_method_10_code
def yX9_isWord : MethodName := ⟨RX9, "isWord", "(I)Z"⟩
abbrev cX9_letter : ByteArray := prog_11_method_11_code
def yX9_letter : MethodName := ⟨RX9, "letter", "(II)I"⟩
abbrev cX9_parts : ByteArray := prog_11_method_12_code
def yX9_parts : MethodName := ⟨RX9, "parts", "(II)I"⟩
abbrev cX9_isTurned : ByteArray := prog_11_method_13_code
def yX9_isTurned : MethodName := ⟨RX9, "isTurned", "(II)Z"⟩
abbrev cX9_vowelsOf : ByteArray := prog_11_method_14_code
def yX9_vowelsOf : MethodName := ⟨RX9, "vowelsOf", "(I)I"⟩
abbrev cX9_idea : ByteArray := prog_11_method_15_code
def yX9_idea : MethodName := ⟨RX9, "idea", "(I)I"⟩
abbrev cX9_isIdeaOrNone : ByteArray := prog_11_method_16_code
def yX9_isIdeaOrNone : MethodName := ⟨RX9, "isIdeaOrNone", "(I)Z"⟩
abbrev cX9_entry : ByteArray := prog_11_method_17_code
def yX9_entry : MethodName := ⟨RX9, "entry", "(IIIII)I"⟩
abbrev cX9_isInBook : ByteArray := prog_11_method_18_code
def yX9_isInBook : MethodName := ⟨RX9, "isInBook", "(I)Z"⟩
abbrev cX9_candidateAt : ByteArray := prog_11_method_19_code
def yX9_candidateAt : MethodName := ⟨RX9, "candidateAt", "(II)I"⟩
abbrev cX9_candidatesOf : ByteArray := prog_11_method_20_code
def yX9_candidatesOf : MethodName := ⟨RX9, "candidatesOf", "(I)I"⟩
abbrev cX9_candidates : ByteArray := prog_11_method_21_code
def yX9_candidates : MethodName := ⟨RX9, "candidates", "(I)I"⟩
abbrev cX9_candidate : ByteArray := prog_11_method_22_code
def yX9_candidate : MethodName := ⟨RX9, "candidate", "(II)I"⟩
abbrev cX9_office : ByteArray := prog_11_method_23_code
def yX9_office : MethodName := ⟨RX9, "office", "()I"⟩
abbrev cX9_cable : ByteArray := prog_11_method_24_code
def yX9_cable : MethodName := ⟨RX9, "cable", "(IIII)I"⟩
abbrev cX9_cableOf : ByteArray := prog_11_method_25_code
def yX9_cableOf : MethodName := ⟨RX9, "cableOf", "(I)I"⟩
abbrev cX9_broken : ByteArray := prog_11_method_26_code
def yX9_broken : MethodName := ⟨RX9, "broken", "(IZ)I"⟩
abbrev cX9_forbid : ByteArray := prog_11_method_27_code
def yX9_forbid : MethodName := ⟨RX9, "forbid", "(IZ)Z"⟩
abbrev cX9_key : ByteArray := prog_11_method_28_code
def yX9_key : MethodName := ⟨RX9, "key", "(II)I"⟩
abbrev cX9_conference : ByteArray := prog_11_method_29_code
def yX9_conference : MethodName := ⟨RX9, "conference", "(IIII)I"⟩
abbrev cX9_rulesAt : ByteArray := prog_11_method_30_code
def yX9_rulesAt : MethodName := ⟨RX9, "rulesAt", "(I)I"⟩
abbrev cX9_reserve : ByteArray := prog_11_method_31_code
def yX9_reserve : MethodName := ⟨RX9, "reserve", "(II)I"⟩
abbrev cX9_up : ByteArray := prog_11_method_32_code
def yX9_up : MethodName := ⟨RX9, "up", "(II)I"⟩
abbrev cX9_sentAs : ByteArray := prog_11_method_33_code
def yX9_sentAs : MethodName := ⟨RX9, "sentAs", "(II)I"⟩
abbrev cX9_entryAt : ByteArray := prog_11_method_34_code
def yX9_entryAt : MethodName := ⟨RX9, "entryAt", "(III)I"⟩
abbrev cX9_plainAt : ByteArray := prog_11_method_35_code
def yX9_plainAt : MethodName := ⟨RX9, "plainAt", "(II)I"⟩
abbrev cX9_allPlain : ByteArray := prog_11_method_36_code
def yX9_allPlain : MethodName := ⟨RX9, "allPlain", "(I)I"⟩
abbrev cX9_reckons : ByteArray := prog_11_method_37_code
def yX9_reckons : MethodName := ⟨RX9, "reckons", "(I)V"⟩
abbrev cX9_cuts : ByteArray := prog_11_method_38_code
def yX9_cuts : MethodName := ⟨RX9, "cuts", "(II)V"⟩
abbrev cX9_packs : ByteArray := prog_11_method_39_code
def yX9_packs : MethodName := ⟨RX9, "packs", "(IZ)V"⟩
abbrev cX9_draft : ByteArray := prog_11_method_40_code
def yX9_draft : MethodName := ⟨RX9, "draft", "(I)I"⟩
abbrev cX9_words : ByteArray := prog_11_method_41_code
def yX9_words : MethodName := ⟨RX9, "words", "(IZ)I"⟩
abbrev cX9_end : ByteArray := prog_11_method_42_code
def yX9_end : MethodName := ⟨RX9, "end", "(II)I"⟩
abbrev cX9_reaches : ByteArray := prog_11_method_43_code
def yX9_reaches : MethodName := ⟨RX9, "reaches", "(I)V"⟩
abbrev cX9_hasRoute : ByteArray := prog_11_method_44_code
def yX9_hasRoute : MethodName := ⟨RX9, "hasRoute", "(II)Z"⟩
abbrev cX9_comes : ByteArray := prog_11_method_45_code
def yX9_comes : MethodName := ⟨RX9, "comes", "(II)V"⟩
abbrev cX9_send : ByteArray := prog_11_method_46_code
def yX9_send : MethodName := ⟨RX9, "send", "(IIIZ)I"⟩
abbrev cX9_isCodeAt : ByteArray := prog_11_method_47_code
def yX9_isCodeAt : MethodName := ⟨RX9, "isCodeAt", "(II)Z"⟩
abbrev cX9_wrong : ByteArray := prog_11_method_48_code
def yX9_wrong : MethodName := ⟨RX9, "wrong", "(IIII)I"⟩
abbrev cX9_behind : ByteArray := prog_11_method_49_code
def yX9_behind : MethodName := ⟨RX9, "behind", "(I)I"⟩
abbrev cX9_carry : ByteArray := prog_11_method_50_code
def yX9_carry : MethodName := ⟨RX9, "carry", "(II)I"⟩
abbrev cX9_carries : ByteArray := prog_11_method_51_code
def yX9_carries : MethodName := ⟨RX9, "carries", "()V"⟩
abbrev cX9_pass : ByteArray := prog_11_method_52_code
def yX9_pass : MethodName := ⟨RX9, "pass", "(I)I"⟩
abbrev cX9_rest : ByteArray := prog_11_method_53_code
def yX9_rest : MethodName := ⟨RX9, "rest", "(I)I"⟩
abbrev cX9_ofMessage : ByteArray := prog_11_method_54_code
def yX9_ofMessage : MethodName := ⟨RX9, "ofMessage", "(II)I"⟩
abbrev cX9_word : ByteArray := prog_11_method_55_code
def yX9_word : MethodName := ⟨RX9, "word", "(IIZ)I"⟩
abbrev cX9_readAs : ByteArray := prog_11_method_56_code
def yX9_readAs : MethodName := ⟨RX9, "readAs", "(II)I"⟩
abbrev cX9_read : ByteArray := prog_11_method_57_code
def yX9_read : MethodName := ⟨RX9, "read", "(II)I"⟩
abbrev cX9_claim : ByteArray := prog_11_method_58_code
def yX9_claim : MethodName := ⟨RX9, "claim", "(I)I"⟩
abbrev cX9_account : ByteArray := prog_11_method_59_code
def yX9_account : MethodName := ⟨RX9, "account", "(I)I"⟩
abbrev cX9_accountAnew : ByteArray := prog_11_method_60_code
def yX9_accountAnew : MethodName := ⟨RX9, "accountAnew", "(I)I"⟩
def RJx145de : String := "java/io/Serializable"
def RJx8e188 : String := "java/lang/Cloneable"
def RJ9 : String := "java/lang/Math"
def TJ9 : u_T := fun k => match k with
  | _ => ("", "", "", false)
def tyJ9 : Nat → FieldType := fun k => match k with
  | _ => .int
theorem nmJ9 : ∀ a, a < 0 → ∀ b, b < 0 → a ≠ b → (TJ9 a).2.1 ≠ (TJ9 b).2.1 := by decide +kernel
theorem tyJ9_ok : ∀ k, k < 0 → parseFieldDescriptor (TJ9 k).2.2.1 = some (tyJ9 k) := by decide +kernel
abbrev cJ9_floorMod_7cf53 : ByteArray := prog_17_method_50_code
def yJ9_floorMod_7cf53 : MethodName := ⟨RJ9, "floorMod", "(II)I"⟩
abbrev cJ9_min_7cf53 : ByteArray := prog_17_method_69_code
def yJ9_min_7cf53 : MethodName := ⟨RJ9, "min", "(II)I"⟩
def RJ0 : String := "java/lang/String"
def TJ0 : u_T := fun k => match k with
  | _ => ("", "", "", false)
def tyJ0 : Nat → FieldType := fun k => match k with
  | _ => .int
theorem nmJ0 : ∀ a, a < 0 → ∀ b, b < 0 → a ≠ b → (TJ0 a).2.1 ≠ (TJ0 b).2.1 := by decide +kernel
theorem tyJ0_ok : ∀ k, k < 0 → parseFieldDescriptor (TJ0 k).2.2.1 = some (tyJ0 k) := by decide +kernel
def RJ10 : String := "java/lang/System"
def TJ10 : u_T := fun k => match k with
  | _ => ("", "", "", false)
def tyJ10 : Nat → FieldType := fun k => match k with
  | _ => .int
theorem nmJ10 : ∀ a, a < 0 → ∀ b, b < 0 → a ≠ b → (TJ10 a).2.1 ≠ (TJ10 b).2.1 := by decide +kernel
theorem tyJ10_ok : ∀ k, k < 0 → parseFieldDescriptor (TJ10 k).2.2.1 = some (tyJ10 k) := by decide +kernel
def RJ7 : String := "java/util/Arrays"
def TJ7 : u_T := fun k => match k with
  | _ => ("", "", "", false)
def tyJ7 : Nat → FieldType := fun k => match k with
  | _ => .int
theorem nmJ7 : ∀ a, a < 0 → ∀ b, b < 0 → a ≠ b → (TJ7 a).2.1 ≠ (TJ7 b).2.1 := by decide +kernel
theorem tyJ7_ok : ∀ k, k < 0 → parseFieldDescriptor (TJ7 k).2.2.1 = some (tyJ7 k) := by decide +kernel
abbrev cJ7_fill_53178 : ByteArray := prog_22_method_103_code
def yJ7_fill_53178 : MethodName := ⟨RJ7, "fill", "([II)V"⟩
abbrev cJ7_copyOf_59c91 : ByteArray := prog_22_method_123_code
def yJ7_copyOf_59c91 : MethodName := ⟨RJ7, "copyOf", "([II)[I"⟩
def RL : String := "CodewordcableLaw"
abbrev cL_idea : ByteArray := method_3_code
def yL_idea : MethodName := ⟨RL, "idea", "(LCodewordcable;I[J)I"⟩
abbrev cL_entry : ByteArray := method_4_code
def yL_entry : MethodName := ⟨RL, "entry", "(LCodewordcable;IIIII[J)I"⟩
abbrev cL_candidates : ByteArray := method_5_code
def yL_candidates : MethodName := ⟨RL, "candidates", "(LCodewordcable;I[J)I"⟩
abbrev cL_candidate : ByteArray := method_6_code
def yL_candidate : MethodName := ⟨RL, "candidate", "(LCodewordcable;II[J)I"⟩
abbrev cL_office : ByteArray := method_7_code
def yL_office : MethodName := ⟨RL, "office", "(LCodewordcable;[J)I"⟩
abbrev cL_cable : ByteArray := method_8_code
def yL_cable : MethodName := ⟨RL, "cable", "(LCodewordcable;IIII[J)I"⟩
abbrev cL_broken : ByteArray := method_9_code
def yL_broken : MethodName := ⟨RL, "broken", "(LCodewordcable;IZ[J)I"⟩
abbrev cL_forbid : ByteArray := method_10_code
def yL_forbid : MethodName := ⟨RL, "forbid", "(LCodewordcable;IZ[J)I"⟩
abbrev cL_key : ByteArray := method_11_code
def yL_key : MethodName := ⟨RL, "key", "(LCodewordcable;II[J)I"⟩
abbrev cL_conference : ByteArray := method_12_code
def yL_conference : MethodName := ⟨RL, "conference", "(LCodewordcable;IIII[J)I"⟩
abbrev cL_reserve : ByteArray := method_13_code
def yL_reserve : MethodName := ⟨RL, "reserve", "(LCodewordcable;II[J)I"⟩
abbrev cL_draft : ByteArray := method_14_code
def yL_draft : MethodName := ⟨RL, "draft", "(LCodewordcable;I[J)I"⟩
abbrev cL_words : ByteArray := method_15_code
def yL_words : MethodName := ⟨RL, "words", "(LCodewordcable;IZ[J)I"⟩
abbrev cL_send : ByteArray := method_16_code
def yL_send : MethodName := ⟨RL, "send", "(LCodewordcable;IIIZ[J)I"⟩
abbrev cL_wrong : ByteArray := method_17_code
def yL_wrong : MethodName := ⟨RL, "wrong", "(LCodewordcable;IIII[J)I"⟩
abbrev cL_pass : ByteArray := method_18_code
def yL_pass : MethodName := ⟨RL, "pass", "(LCodewordcable;I[J)I"⟩
abbrev cL_rest : ByteArray := method_19_code
def yL_rest : MethodName := ⟨RL, "rest", "(LCodewordcable;I[J)I"⟩
abbrev cL_ofMessage : ByteArray := method_20_code
def yL_ofMessage : MethodName := ⟨RL, "ofMessage", "(LCodewordcable;II[J)I"⟩
abbrev cL_word : ByteArray := method_21_code
def yL_word : MethodName := ⟨RL, "word", "(LCodewordcable;IIZ[J)I"⟩
abbrev cL_read : ByteArray := method_22_code
def yL_read : MethodName := ⟨RL, "read", "(LCodewordcable;II[J)I"⟩
abbrev cL_claim : ByteArray := method_23_code
def yL_claim : MethodName := ⟨RL, "claim", "(LCodewordcable;I[J)I"⟩
abbrev cL_account : ByteArray := method_24_code
def yL_account : MethodName := ⟨RL, "account", "(LCodewordcable;I[J)I"⟩
abbrev cL_accountAnew : ByteArray := method_25_code
def yL_accountAnew : MethodName := ⟨RL, "accountAnew", "(LCodewordcable;I[J)I"⟩
abbrev cL_law : ByteArray := code
def yL_law : MethodName := ⟨RL, "law", "([I)Z"⟩
abbrev vwCl : List vw_C := [(RX0, TX0, 7), (RX1, TX1, 6), (RX2, TX2, 2), (RX3, TX3, 13), (RX4, TX4, 7), (RX5, TX5, 4), (RX6, TX6, 7), (RX7, TX7, 5), (RX8, TX8, 10), (RX9, TX9, 49)]
end
section
theorem dJ7_fill_53178_0 : decode cJ7_fill_53178 0 = .ok (.iconst 0, 1) := by decide +kernel
theorem dJ7_fill_53178_1 : decode cJ7_fill_53178 1 = .ok (.istore_n 2, 1) := by decide +kernel
theorem dJ7_fill_53178_2 : decode cJ7_fill_53178 2 = .ok (.aload_n 0, 1) := by decide +kernel
theorem dJ7_fill_53178_3 : decode cJ7_fill_53178 3 = .ok (.arraylength, 1) := by decide +kernel
theorem dJ7_fill_53178_4 : decode cJ7_fill_53178 4 = .ok (.istore_n 3, 1) := by decide +kernel
theorem dJ7_fill_53178_5 : decode cJ7_fill_53178 5 = .ok (.iload_n 2, 1) := by decide +kernel
theorem dJ7_fill_53178_6 : decode cJ7_fill_53178 6 = .ok (.iload_n 3, 1) := by decide +kernel
theorem dJ7_fill_53178_7 : decode cJ7_fill_53178 7 = .ok (.if_icmp .ge 13, 3) := by decide +kernel
theorem dJ7_fill_53178_10 : decode cJ7_fill_53178 10 = .ok (.aload_n 0, 1) := by decide +kernel
theorem dJ7_fill_53178_11 : decode cJ7_fill_53178 11 = .ok (.iload_n 2, 1) := by decide +kernel
theorem dJ7_fill_53178_12 : decode cJ7_fill_53178 12 = .ok (.iload_n 1, 1) := by decide +kernel
theorem dJ7_fill_53178_13 : decode cJ7_fill_53178 13 = .ok (.iastore, 1) := by decide +kernel
theorem dJ7_fill_53178_14 : decode cJ7_fill_53178 14 = .ok (.iinc 2 1, 3) := by decide +kernel
theorem dJ7_fill_53178_17 : decode cJ7_fill_53178 17 = .ok (.goto (-12), 3) := by decide +kernel
theorem dJ7_fill_53178_20 : decode cJ7_fill_53178 20 = .ok (.return_, 1) := by decide +kernel
theorem dJ7_copyOf_59c91_0 : decode cJ7_copyOf_59c91 0 = .ok (.iload_n 1, 1) := by decide +kernel
theorem dJ7_copyOf_59c91_1 : decode cJ7_copyOf_59c91 1 = .ok (.aload_n 0, 1) := by decide +kernel
theorem dJ7_copyOf_59c91_2 : decode cJ7_copyOf_59c91 2 = .ok (.arraylength, 1) := by decide +kernel
theorem dJ7_copyOf_59c91_3 : decode cJ7_copyOf_59c91 3 = .ok (.if_icmp .ne 11, 3) := by decide +kernel
theorem dJ7_copyOf_59c91_6 : decode cJ7_copyOf_59c91 6 = .ok (.aload_n 0, 1) := by decide +kernel
theorem dJ7_copyOf_59c91_7 : decode cJ7_copyOf_59c91 7 = .ok (.invokevirtual 316, 3) := by decide +kernel
theorem dJ7_copyOf_59c91_10 : decode cJ7_copyOf_59c91 10 = .ok (.checkcast 317, 3) := by decide +kernel
theorem dJ7_copyOf_59c91_13 : decode cJ7_copyOf_59c91 13 = .ok (.areturn, 1) := by decide +kernel
theorem dJ7_copyOf_59c91_14 : decode cJ7_copyOf_59c91 14 = .ok (.iload_n 1, 1) := by decide +kernel
theorem dJ7_copyOf_59c91_15 : decode cJ7_copyOf_59c91 15 = .ok (.newarray .int, 2) := by decide +kernel
theorem dJ7_copyOf_59c91_17 : decode cJ7_copyOf_59c91 17 = .ok (.astore_n 2, 1) := by decide +kernel
theorem dJ7_copyOf_59c91_18 : decode cJ7_copyOf_59c91 18 = .ok (.aload_n 0, 1) := by decide +kernel
theorem dJ7_copyOf_59c91_19 : decode cJ7_copyOf_59c91 19 = .ok (.iconst 0, 1) := by decide +kernel
theorem dJ7_copyOf_59c91_20 : decode cJ7_copyOf_59c91 20 = .ok (.aload_n 2, 1) := by decide +kernel
theorem dJ7_copyOf_59c91_21 : decode cJ7_copyOf_59c91 21 = .ok (.iconst 0, 1) := by decide +kernel
theorem dJ7_copyOf_59c91_22 : decode cJ7_copyOf_59c91 22 = .ok (.aload_n 0, 1) := by decide +kernel
theorem dJ7_copyOf_59c91_23 : decode cJ7_copyOf_59c91 23 = .ok (.arraylength, 1) := by decide +kernel
theorem dJ7_copyOf_59c91_24 : decode cJ7_copyOf_59c91 24 = .ok (.iload_n 1, 1) := by decide +kernel
theorem dJ7_copyOf_59c91_25 : decode cJ7_copyOf_59c91 25 = .ok (.invokestatic 304, 3) := by decide +kernel
theorem dJ7_copyOf_59c91_28 : decode cJ7_copyOf_59c91 28 = .ok (.invokestatic 150, 3) := by decide +kernel
theorem dJ7_copyOf_59c91_31 : decode cJ7_copyOf_59c91 31 = .ok (.aload_n 2, 1) := by decide +kernel
theorem dJ7_copyOf_59c91_32 : decode cJ7_copyOf_59c91 32 = .ok (.areturn, 1) := by decide +kernel
theorem dJ9_floorMod_7cf53_0 : decode cJ9_floorMod_7cf53 0 = .ok (.iload_n 0, 1) := by decide +kernel
theorem dJ9_floorMod_7cf53_1 : decode cJ9_floorMod_7cf53 1 = .ok (.iload_n 1, 1) := by decide +kernel
theorem dJ9_floorMod_7cf53_2 : decode cJ9_floorMod_7cf53 2 = .ok (.irem, 1) := by decide +kernel
theorem dJ9_floorMod_7cf53_3 : decode cJ9_floorMod_7cf53 3 = .ok (.istore_n 2, 1) := by decide +kernel
theorem dJ9_floorMod_7cf53_4 : decode cJ9_floorMod_7cf53 4 = .ok (.iload_n 0, 1) := by decide +kernel
theorem dJ9_floorMod_7cf53_5 : decode cJ9_floorMod_7cf53 5 = .ok (.iload_n 1, 1) := by decide +kernel
theorem dJ9_floorMod_7cf53_6 : decode cJ9_floorMod_7cf53 6 = .ok (.ixor, 1) := by decide +kernel
theorem dJ9_floorMod_7cf53_7 : decode cJ9_floorMod_7cf53 7 = .ok (.ifCond .ge 11, 3) := by decide +kernel
theorem dJ9_floorMod_7cf53_10 : decode cJ9_floorMod_7cf53 10 = .ok (.iload_n 2, 1) := by decide +kernel
theorem dJ9_floorMod_7cf53_11 : decode cJ9_floorMod_7cf53 11 = .ok (.ifCond .eq 7, 3) := by decide +kernel
theorem dJ9_floorMod_7cf53_14 : decode cJ9_floorMod_7cf53 14 = .ok (.iload_n 2, 1) := by decide +kernel
theorem dJ9_floorMod_7cf53_15 : decode cJ9_floorMod_7cf53 15 = .ok (.iload_n 1, 1) := by decide +kernel
theorem dJ9_floorMod_7cf53_16 : decode cJ9_floorMod_7cf53 16 = .ok (.iadd, 1) := by decide +kernel
theorem dJ9_floorMod_7cf53_17 : decode cJ9_floorMod_7cf53 17 = .ok (.ireturn, 1) := by decide +kernel
theorem dJ9_floorMod_7cf53_18 : decode cJ9_floorMod_7cf53 18 = .ok (.iload_n 2, 1) := by decide +kernel
theorem dJ9_floorMod_7cf53_19 : decode cJ9_floorMod_7cf53 19 = .ok (.ireturn, 1) := by decide +kernel
theorem dJ9_min_7cf53_0 : decode cJ9_min_7cf53 0 = .ok (.iload_n 0, 1) := by decide +kernel
theorem dJ9_min_7cf53_1 : decode cJ9_min_7cf53 1 = .ok (.iload_n 1, 1) := by decide +kernel
theorem dJ9_min_7cf53_2 : decode cJ9_min_7cf53 2 = .ok (.if_icmp .gt 7, 3) := by decide +kernel
theorem dJ9_min_7cf53_5 : decode cJ9_min_7cf53 5 = .ok (.iload_n 0, 1) := by decide +kernel
theorem dJ9_min_7cf53_6 : decode cJ9_min_7cf53 6 = .ok (.goto 4, 3) := by decide +kernel
theorem dJ9_min_7cf53_9 : decode cJ9_min_7cf53 9 = .ok (.iload_n 1, 1) := by decide +kernel
theorem dJ9_min_7cf53_10 : decode cJ9_min_7cf53 10 = .ok (.ireturn, 1) := by decide +kernel
theorem dX0_init_0 : decode cX0_init 0 = .ok (.aload_n 0, 1) := by decide +kernel
theorem dX0_init_1 : decode cX0_init 1 = .ok (.invokespecial 3, 3) := by decide +kernel
theorem dX0_init_4 : decode cX0_init 4 = .ok (.aload_n 0, 1) := by decide +kernel
theorem dX0_init_5 : decode cX0_init 5 = .ok (.bipush 30, 2) := by decide +kernel
theorem dX0_init_7 : decode cX0_init 7 = .ok (.newarray .int, 2) := by decide +kernel
theorem dX0_init_9 : decode cX0_init 9 = .ok (.putfield 9, 3) := by decide +kernel
theorem dX0_init_12 : decode cX0_init 12 = .ok (.aload_n 0, 1) := by decide +kernel
theorem dX0_init_13 : decode cX0_init 13 = .ok (.bipush 40, 2) := by decide +kernel
theorem dX0_init_15 : decode cX0_init 15 = .ok (.newarray .int, 2) := by decide +kernel
theorem dX0_init_17 : decode cX0_init 17 = .ok (.putfield 15, 3) := by decide +kernel
theorem dX0_init_20 : decode cX0_init 20 = .ok (.aload_n 0, 1) := by decide +kernel
theorem dX0_init_21 : decode cX0_init 21 = .ok (.sipush 160, 3) := by decide +kernel
theorem dX0_init_24 : decode cX0_init 24 = .ok (.newarray .int, 2) := by decide +kernel
theorem dX0_init_26 : decode cX0_init 26 = .ok (.putfield 18, 3) := by decide +kernel
theorem dX0_init_29 : decode cX0_init 29 = .ok (.aload_n 0, 1) := by decide +kernel
theorem dX0_init_30 : decode cX0_init 30 = .ok (.bipush 40, 2) := by decide +kernel
theorem dX0_init_32 : decode cX0_init 32 = .ok (.newarray .int, 2) := by decide +kernel
theorem dX0_init_34 : decode cX0_init 34 = .ok (.putfield 21, 3) := by decide +kernel
theorem dX0_init_37 : decode cX0_init 37 = .ok (.aload_n 0, 1) := by decide +kernel
theorem dX0_init_38 : decode cX0_init 38 = .ok (.iconst 0, 1) := by decide +kernel
theorem dX0_init_39 : decode cX0_init 39 = .ok (.putfield 24, 3) := by decide +kernel
theorem dX0_init_42 : decode cX0_init 42 = .ok (.aload_n 0, 1) := by decide +kernel
theorem dX0_init_43 : decode cX0_init 43 = .ok (.iconst 0, 1) := by decide +kernel
theorem dX0_init_44 : decode cX0_init 44 = .ok (.putfield 28, 3) := by decide +kernel
theorem dX0_init_47 : decode cX0_init 47 = .ok (.aload_n 0, 1) := by decide +kernel
theorem dX0_init_48 : decode cX0_init 48 = .ok (.iconst 0, 1) := by decide +kernel
theorem dX0_init_49 : decode cX0_init 49 = .ok (.putfield 31, 3) := by decide +kernel
theorem dX0_init_52 : decode cX0_init 52 = .ok (.return_, 1) := by decide +kernel
theorem dX0_addIdea_0 : decode cX0_addIdea 0 = .ok (.aload_n 0, 1) := by decide +kernel
theorem dX0_addIdea_1 : decode cX0_addIdea 1 = .ok (.getfield 24, 3) := by decide +kernel
theorem dX0_addIdea_4 : decode cX0_addIdea 4 = .ok (.aload_n 0, 1) := by decide +kernel
theorem dX0_addIdea_5 : decode cX0_addIdea 5 = .ok (.getfield 9, 3) := by decide +kernel
theorem dX0_addIdea_8 : decode cX0_addIdea 8 = .ok (.arraylength, 1) := by decide +kernel
theorem dX0_addIdea_9 : decode cX0_addIdea 9 = .ok (.if_icmp .lt 5, 3) := by decide +kernel
theorem dX0_addIdea_12 : decode cX0_addIdea 12 = .ok (.iconst (-1), 1) := by decide +kernel
theorem dX0_addIdea_13 : decode cX0_addIdea 13 = .ok (.ireturn, 1) := by decide +kernel
theorem dX0_addIdea_14 : decode cX0_addIdea 14 = .ok (.aload_n 0, 1) := by decide +kernel
theorem dX0_addIdea_15 : decode cX0_addIdea 15 = .ok (.getfield 9, 3) := by decide +kernel
theorem dX0_addIdea_18 : decode cX0_addIdea 18 = .ok (.aload_n 0, 1) := by decide +kernel
theorem dX0_addIdea_19 : decode cX0_addIdea 19 = .ok (.getfield 24, 3) := by decide +kernel
theorem dX0_addIdea_22 : decode cX0_addIdea 22 = .ok (.iload_n 1, 1) := by decide +kernel
theorem dX0_addIdea_23 : decode cX0_addIdea 23 = .ok (.iastore, 1) := by decide +kernel
theorem dX0_addIdea_24 : decode cX0_addIdea 24 = .ok (.aload_n 0, 1) := by decide +kernel
theorem dX0_addIdea_25 : decode cX0_addIdea 25 = .ok (.dup, 1) := by decide +kernel
theorem dX0_addIdea_26 : decode cX0_addIdea 26 = .ok (.getfield 24, 3) := by decide +kernel
theorem dX0_addIdea_29 : decode cX0_addIdea 29 = .ok (.iconst 1, 1) := by decide +kernel
theorem dX0_addIdea_30 : decode cX0_addIdea 30 = .ok (.iadd, 1) := by decide +kernel
theorem dX0_addIdea_31 : decode cX0_addIdea 31 = .ok (.putfield 24, 3) := by decide +kernel
theorem dX0_addIdea_34 : decode cX0_addIdea 34 = .ok (.aload_n 0, 1) := by decide +kernel
theorem dX0_addIdea_35 : decode cX0_addIdea 35 = .ok (.getfield 24, 3) := by decide +kernel
theorem dX0_addIdea_38 : decode cX0_addIdea 38 = .ok (.iconst 1, 1) := by decide +kernel
theorem dX0_addIdea_39 : decode cX0_addIdea 39 = .ok (.isub, 1) := by decide +kernel
theorem dX0_addIdea_40 : decode cX0_addIdea 40 = .ok (.ireturn, 1) := by decide +kernel
theorem dX0_hasIdea_0 : decode cX0_hasIdea 0 = .ok (.iload_n 1, 1) := by decide +kernel
theorem dX0_hasIdea_1 : decode cX0_hasIdea 1 = .ok (.iconst 0, 1) := by decide +kernel
theorem dX0_hasIdea_2 : decode cX0_hasIdea 2 = .ok (.aload_n 0, 1) := by decide +kernel
theorem dX0_hasIdea_3 : decode cX0_hasIdea 3 = .ok (.getfield 24, 3) := by decide +kernel
theorem dX0_hasIdea_6 : decode cX0_hasIdea 6 = .ok (.iconst 1, 1) := by decide +kernel
theorem dX0_hasIdea_7 : decode cX0_hasIdea 7 = .ok (.isub, 1) := by decide +kernel
theorem dX0_hasIdea_8 : decode cX0_hasIdea 8 = .ok (.invokestatic 34, 3) := by decide +kernel
theorem dX0_hasIdea_11 : decode cX0_hasIdea 11 = .ok (.ifCond .ne 7, 3) := by decide +kernel
theorem dX0_hasIdea_14 : decode cX0_hasIdea 14 = .ok (.iconst 1, 1) := by decide +kernel
theorem dX0_hasIdea_15 : decode cX0_hasIdea 15 = .ok (.goto 4, 3) := by decide +kernel
theorem dX0_hasIdea_18 : decode cX0_hasIdea 18 = .ok (.iconst 0, 1) := by decide +kernel
theorem dX0_hasIdea_19 : decode cX0_hasIdea 19 = .ok (.ireturn, 1) := by decide +kernel
theorem dX0_hasIdeaOrNone_0 : decode cX0_hasIdeaOrNone 0 = .ok (.iload_n 1, 1) := by decide +kernel
theorem dX0_hasIdeaOrNone_1 : decode cX0_hasIdeaOrNone 1 = .ok (.iconst (-1), 1) := by decide +kernel
theorem dX0_hasIdeaOrNone_2 : decode cX0_hasIdeaOrNone 2 = .ok (.if_icmp .eq 11, 3) := by decide +kernel
theorem dX0_hasIdeaOrNone_5 : decode cX0_hasIdeaOrNone 5 = .ok (.aload_n 0, 1) := by decide +kernel
theorem dX0_hasIdeaOrNone_6 : decode cX0_hasIdeaOrNone 6 = .ok (.iload_n 1, 1) := by decide +kernel
theorem dX0_hasIdeaOrNone_7 : decode cX0_hasIdeaOrNone 7 = .ok (.invokevirtual 38, 3) := by decide +kernel
theorem dX0_hasIdeaOrNone_10 : decode cX0_hasIdeaOrNone 10 = .ok (.ifCond .eq 7, 3) := by decide +kernel
theorem dX0_hasIdeaOrNone_13 : decode cX0_hasIdeaOrNone 13 = .ok (.iconst 1, 1) := by decide +kernel
theorem dX0_hasIdeaOrNone_14 : decode cX0_hasIdeaOrNone 14 = .ok (.goto 4, 3) := by decide +kernel
theorem dX0_hasIdeaOrNone_17 : decode cX0_hasIdeaOrNone 17 = .ok (.iconst 0, 1) := by decide +kernel
theorem dX0_hasIdeaOrNone_18 : decode cX0_hasIdeaOrNone 18 = .ok (.ireturn, 1) := by decide +kernel
theorem dX0_lettersOf_0 : decode cX0_lettersOf 0 = .ok (.aload_n 0, 1) := by decide +kernel
theorem dX0_lettersOf_1 : decode cX0_lettersOf 1 = .ok (.iload_n 1, 1) := by decide +kernel
theorem dX0_lettersOf_2 : decode cX0_lettersOf 2 = .ok (.invokevirtual 38, 3) := by decide +kernel
theorem dX0_lettersOf_5 : decode cX0_lettersOf 5 = .ok (.ifCond .eq 21, 3) := by decide +kernel
theorem dX0_lettersOf_8 : decode cX0_lettersOf 8 = .ok (.iload_n 1, 1) := by decide +kernel
theorem dX0_lettersOf_9 : decode cX0_lettersOf 9 = .ok (.aload_n 0, 1) := by decide +kernel
theorem dX0_lettersOf_10 : decode cX0_lettersOf 10 = .ok (.getfield 9, 3) := by decide +kernel
theorem dX0_lettersOf_13 : decode cX0_lettersOf 13 = .ok (.arraylength, 1) := by decide +kernel
theorem dX0_lettersOf_14 : decode cX0_lettersOf 14 = .ok (.if_icmp .ge 12, 3) := by decide +kernel
theorem dX0_lettersOf_17 : decode cX0_lettersOf 17 = .ok (.aload_n 0, 1) := by decide +kernel
theorem dX0_lettersOf_18 : decode cX0_lettersOf 18 = .ok (.getfield 9, 3) := by decide +kernel
theorem dX0_lettersOf_21 : decode cX0_lettersOf 21 = .ok (.iload_n 1, 1) := by decide +kernel
theorem dX0_lettersOf_22 : decode cX0_lettersOf 22 = .ok (.iaload, 1) := by decide +kernel
theorem dX0_lettersOf_23 : decode cX0_lettersOf 23 = .ok (.goto 4, 3) := by decide +kernel
theorem dX0_lettersOf_26 : decode cX0_lettersOf 26 = .ok (.iconst 0, 1) := by decide +kernel
theorem dX0_lettersOf_27 : decode cX0_lettersOf 27 = .ok (.ireturn, 1) := by decide +kernel
theorem dX0_hasEntry_0 : decode cX0_hasEntry 0 = .ok (.iload_n 1, 1) := by decide +kernel
theorem dX0_hasEntry_1 : decode cX0_hasEntry 1 = .ok (.ifCond .lt 24, 3) := by decide +kernel
theorem dX0_hasEntry_4 : decode cX0_hasEntry 4 = .ok (.iload_n 1, 1) := by decide +kernel
theorem dX0_hasEntry_5 : decode cX0_hasEntry 5 = .ok (.aload_n 0, 1) := by decide +kernel
theorem dX0_hasEntry_6 : decode cX0_hasEntry 6 = .ok (.getfield 28, 3) := by decide +kernel
theorem dX0_hasEntry_9 : decode cX0_hasEntry 9 = .ok (.if_icmp .ge 16, 3) := by decide +kernel
theorem dX0_hasEntry_12 : decode cX0_hasEntry 12 = .ok (.iload_n 1, 1) := by decide +kernel
theorem dX0_hasEntry_13 : decode cX0_hasEntry 13 = .ok (.aload_n 0, 1) := by decide +kernel
theorem dX0_hasEntry_14 : decode cX0_hasEntry 14 = .ok (.getfield 15, 3) := by decide +kernel
theorem dX0_hasEntry_17 : decode cX0_hasEntry 17 = .ok (.arraylength, 1) := by decide +kernel
theorem dX0_hasEntry_18 : decode cX0_hasEntry 18 = .ok (.if_icmp .ge 7, 3) := by decide +kernel
theorem dX0_hasEntry_21 : decode cX0_hasEntry 21 = .ok (.iconst 1, 1) := by decide +kernel
theorem dX0_hasEntry_22 : decode cX0_hasEntry 22 = .ok (.goto 4, 3) := by decide +kernel
theorem dX0_hasEntry_25 : decode cX0_hasEntry 25 = .ok (.iconst 0, 1) := by decide +kernel
theorem dX0_hasEntry_26 : decode cX0_hasEntry 26 = .ok (.ireturn, 1) := by decide +kernel
theorem dX0_codeOf_0 : decode cX0_codeOf 0 = .ok (.aload_n 0, 1) := by decide +kernel
theorem dX0_codeOf_1 : decode cX0_codeOf 1 = .ok (.iload_n 1, 1) := by decide +kernel
theorem dX0_codeOf_2 : decode cX0_codeOf 2 = .ok (.invokevirtual 42, 3) := by decide +kernel
theorem dX0_codeOf_5 : decode cX0_codeOf 5 = .ok (.ifCond .eq 12, 3) := by decide +kernel
theorem dX0_codeOf_8 : decode cX0_codeOf 8 = .ok (.aload_n 0, 1) := by decide +kernel
theorem dX0_codeOf_9 : decode cX0_codeOf 9 = .ok (.getfield 15, 3) := by decide +kernel
theorem dX0_codeOf_12 : decode cX0_codeOf 12 = .ok (.iload_n 1, 1) := by decide +kernel
theorem dX0_codeOf_13 : decode cX0_codeOf 13 = .ok (.iaload, 1) := by decide +kernel
theorem dX0_codeOf_14 : decode cX0_codeOf 14 = .ok (.goto 4, 3) := by decide +kernel
theorem dX0_codeOf_17 : decode cX0_codeOf 17 = .ok (.iconst (-1), 1) := by decide +kernel
theorem dX0_codeOf_18 : decode cX0_codeOf 18 = .ok (.ireturn, 1) := by decide +kernel
theorem dX0_ideaIn_0 : decode cX0_ideaIn 0 = .ok (.iload_n 1, 1) := by decide +kernel
theorem dX0_ideaIn_1 : decode cX0_ideaIn 1 = .ok (.iconst 4, 1) := by decide +kernel
theorem dX0_ideaIn_2 : decode cX0_ideaIn 2 = .ok (.imul, 1) := by decide +kernel
theorem dX0_ideaIn_3 : decode cX0_ideaIn 3 = .ok (.iload_n 2, 1) := by decide +kernel
theorem dX0_ideaIn_4 : decode cX0_ideaIn 4 = .ok (.iadd, 1) := by decide +kernel
theorem dX0_ideaIn_5 : decode cX0_ideaIn 5 = .ok (.istore_n 3, 1) := by decide +kernel
theorem dX0_ideaIn_6 : decode cX0_ideaIn 6 = .ok (.aload_n 0, 1) := by decide +kernel
theorem dX0_ideaIn_7 : decode cX0_ideaIn 7 = .ok (.iload_n 1, 1) := by decide +kernel
theorem dX0_ideaIn_8 : decode cX0_ideaIn 8 = .ok (.invokevirtual 42, 3) := by decide +kernel
theorem dX0_ideaIn_11 : decode cX0_ideaIn 11 = .ok (.ifCond .eq 25, 3) := by decide +kernel
theorem dX0_ideaIn_14 : decode cX0_ideaIn 14 = .ok (.iload_n 2, 1) := by decide +kernel
theorem dX0_ideaIn_15 : decode cX0_ideaIn 15 = .ok (.iconst 0, 1) := by decide +kernel
theorem dX0_ideaIn_16 : decode cX0_ideaIn 16 = .ok (.iconst 3, 1) := by decide +kernel
theorem dX0_ideaIn_17 : decode cX0_ideaIn 17 = .ok (.invokestatic 34, 3) := by decide +kernel
theorem dX0_ideaIn_20 : decode cX0_ideaIn 20 = .ok (.ifCond .ne 16, 3) := by decide +kernel
theorem dX0_ideaIn_23 : decode cX0_ideaIn 23 = .ok (.iload_n 3, 1) := by decide +kernel
theorem dX0_ideaIn_24 : decode cX0_ideaIn 24 = .ok (.aload_n 0, 1) := by decide +kernel
theorem dX0_ideaIn_25 : decode cX0_ideaIn 25 = .ok (.getfield 18, 3) := by decide +kernel
theorem dX0_ideaIn_28 : decode cX0_ideaIn 28 = .ok (.arraylength, 1) := by decide +kernel
theorem dX0_ideaIn_29 : decode cX0_ideaIn 29 = .ok (.if_icmp .ge 7, 3) := by decide +kernel
theorem dX0_ideaIn_32 : decode cX0_ideaIn 32 = .ok (.iconst 1, 1) := by decide +kernel
theorem dX0_ideaIn_33 : decode cX0_ideaIn 33 = .ok (.goto 4, 3) := by decide +kernel
theorem dX0_ideaIn_36 : decode cX0_ideaIn 36 = .ok (.iconst 0, 1) := by decide +kernel
theorem dX0_ideaIn_37 : decode cX0_ideaIn 37 = .ok (.istore 4, 2) := by decide +kernel
theorem dX0_ideaIn_39 : decode cX0_ideaIn 39 = .ok (.iload 4, 2) := by decide +kernel
theorem dX0_ideaIn_41 : decode cX0_ideaIn 41 = .ok (.ifCond .eq 12, 3) := by decide +kernel
theorem dX0_ideaIn_44 : decode cX0_ideaIn 44 = .ok (.aload_n 0, 1) := by decide +kernel
theorem dX0_ideaIn_45 : decode cX0_ideaIn 45 = .ok (.getfield 18, 3) := by decide +kernel
theorem dX0_ideaIn_48 : decode cX0_ideaIn 48 = .ok (.iload_n 3, 1) := by decide +kernel
theorem dX0_ideaIn_49 : decode cX0_ideaIn 49 = .ok (.iaload, 1) := by decide +kernel
theorem dX0_ideaIn_50 : decode cX0_ideaIn 50 = .ok (.goto 4, 3) := by decide +kernel
theorem dX0_ideaIn_53 : decode cX0_ideaIn 53 = .ok (.iconst (-1), 1) := by decide +kernel
theorem dX0_ideaIn_54 : decode cX0_ideaIn 54 = .ok (.ireturn, 1) := by decide +kernel
theorem dX0_phraseLength_0 : decode cX0_phraseLength 0 = .ok (.iconst 0, 1) := by decide +kernel
theorem dX0_phraseLength_1 : decode cX0_phraseLength 1 = .ok (.istore_n 2, 1) := by decide +kernel
theorem dX0_phraseLength_2 : decode cX0_phraseLength 2 = .ok (.iload_n 2, 1) := by decide +kernel
theorem dX0_phraseLength_3 : decode cX0_phraseLength 3 = .ok (.iconst 4, 1) := by decide +kernel
theorem dX0_phraseLength_4 : decode cX0_phraseLength 4 = .ok (.if_icmp .ge 19, 3) := by decide +kernel
theorem dX0_phraseLength_7 : decode cX0_phraseLength 7 = .ok (.aload_n 0, 1) := by decide +kernel
theorem dX0_phraseLength_8 : decode cX0_phraseLength 8 = .ok (.iload_n 1, 1) := by decide +kernel
theorem dX0_phraseLength_9 : decode cX0_phraseLength 9 = .ok (.iload_n 2, 1) := by decide +kernel
theorem dX0_phraseLength_10 : decode cX0_phraseLength 10 = .ok (.invokevirtual 45, 3) := by decide +kernel
theorem dX0_phraseLength_13 : decode cX0_phraseLength 13 = .ok (.iconst (-1), 1) := by decide +kernel
theorem dX0_phraseLength_14 : decode cX0_phraseLength 14 = .ok (.if_icmp .eq 9, 3) := by decide +kernel
theorem dX0_phraseLength_17 : decode cX0_phraseLength 17 = .ok (.iinc 2 1, 3) := by decide +kernel
theorem dX0_phraseLength_20 : decode cX0_phraseLength 20 = .ok (.goto (-18), 3) := by decide +kernel
theorem dX0_phraseLength_23 : decode cX0_phraseLength 23 = .ok (.iload_n 2, 1) := by decide +kernel
theorem dX0_phraseLength_24 : decode cX0_phraseLength 24 = .ok (.ireturn, 1) := by decide +kernel
theorem dX0_hasPhrase_0 : decode cX0_hasPhrase 0 = .ok (.iconst 0, 1) := by decide +kernel
theorem dX0_hasPhrase_1 : decode cX0_hasPhrase 1 = .ok (.istore 5, 2) := by decide +kernel
theorem dX0_hasPhrase_3 : decode cX0_hasPhrase 3 = .ok (.iload 5, 2) := by decide +kernel
theorem dX0_hasPhrase_5 : decode cX0_hasPhrase 5 = .ok (.aload_n 0, 1) := by decide +kernel
theorem dX0_hasPhrase_6 : decode cX0_hasPhrase 6 = .ok (.getfield 28, 3) := by decide +kernel
theorem dX0_hasPhrase_9 : decode cX0_hasPhrase 9 = .ok (.if_icmp .ge 56, 3) := by decide +kernel
theorem dX0_hasPhrase_12 : decode cX0_hasPhrase 12 = .ok (.aload_n 0, 1) := by decide +kernel
theorem dX0_hasPhrase_13 : decode cX0_hasPhrase 13 = .ok (.iload 5, 2) := by decide +kernel
theorem dX0_hasPhrase_15 : decode cX0_hasPhrase 15 = .ok (.iconst 0, 1) := by decide +kernel
theorem dX0_hasPhrase_16 : decode cX0_hasPhrase 16 = .ok (.invokevirtual 45, 3) := by decide +kernel
theorem dX0_hasPhrase_19 : decode cX0_hasPhrase 19 = .ok (.iload_n 1, 1) := by decide +kernel
theorem dX0_hasPhrase_20 : decode cX0_hasPhrase 20 = .ok (.if_icmp .ne 39, 3) := by decide +kernel
theorem dX0_hasPhrase_23 : decode cX0_hasPhrase 23 = .ok (.aload_n 0, 1) := by decide +kernel
theorem dX0_hasPhrase_24 : decode cX0_hasPhrase 24 = .ok (.iload 5, 2) := by decide +kernel
theorem dX0_hasPhrase_26 : decode cX0_hasPhrase 26 = .ok (.iconst 1, 1) := by decide +kernel
theorem dX0_hasPhrase_27 : decode cX0_hasPhrase 27 = .ok (.invokevirtual 45, 3) := by decide +kernel
theorem dX0_hasPhrase_30 : decode cX0_hasPhrase 30 = .ok (.iload_n 2, 1) := by decide +kernel
theorem dX0_hasPhrase_31 : decode cX0_hasPhrase 31 = .ok (.if_icmp .ne 28, 3) := by decide +kernel
theorem dX0_hasPhrase_34 : decode cX0_hasPhrase 34 = .ok (.aload_n 0, 1) := by decide +kernel
theorem dX0_hasPhrase_35 : decode cX0_hasPhrase 35 = .ok (.iload 5, 2) := by decide +kernel
theorem dX0_hasPhrase_37 : decode cX0_hasPhrase 37 = .ok (.iconst 2, 1) := by decide +kernel
theorem dX0_hasPhrase_38 : decode cX0_hasPhrase 38 = .ok (.invokevirtual 45, 3) := by decide +kernel
theorem dX0_hasPhrase_41 : decode cX0_hasPhrase 41 = .ok (.iload_n 3, 1) := by decide +kernel
theorem dX0_hasPhrase_42 : decode cX0_hasPhrase 42 = .ok (.if_icmp .ne 17, 3) := by decide +kernel
theorem dX0_hasPhrase_45 : decode cX0_hasPhrase 45 = .ok (.aload_n 0, 1) := by decide +kernel
theorem dX0_hasPhrase_46 : decode cX0_hasPhrase 46 = .ok (.iload 5, 2) := by decide +kernel
theorem dX0_hasPhrase_48 : decode cX0_hasPhrase 48 = .ok (.iconst 3, 1) := by decide +kernel
theorem dX0_hasPhrase_49 : decode cX0_hasPhrase 49 = .ok (.invokevirtual 45, 3) := by decide +kernel
theorem dX0_hasPhrase_52 : decode cX0_hasPhrase 52 = .ok (.iload 4, 2) := by decide +kernel
theorem dX0_hasPhrase_54 : decode cX0_hasPhrase 54 = .ok (.if_icmp .ne 5, 3) := by decide +kernel
theorem dX0_hasPhrase_57 : decode cX0_hasPhrase 57 = .ok (.iconst 1, 1) := by decide +kernel
theorem dX0_hasPhrase_58 : decode cX0_hasPhrase 58 = .ok (.ireturn, 1) := by decide +kernel
theorem dX0_hasPhrase_59 : decode cX0_hasPhrase 59 = .ok (.iinc 5 1, 3) := by decide +kernel
theorem dX0_hasPhrase_62 : decode cX0_hasPhrase 62 = .ok (.goto (-59), 3) := by decide +kernel
theorem dX0_hasPhrase_65 : decode cX0_hasPhrase 65 = .ok (.iconst 0, 1) := by decide +kernel
theorem dX0_hasPhrase_66 : decode cX0_hasPhrase 66 = .ok (.ireturn, 1) := by decide +kernel
theorem dX0_hasCodeNear_0 : decode cX0_hasCodeNear 0 = .ok (.iconst 0, 1) := by decide +kernel
theorem dX0_hasCodeNear_1 : decode cX0_hasCodeNear 1 = .ok (.istore_n 2, 1) := by decide +kernel
theorem dX0_hasCodeNear_2 : decode cX0_hasCodeNear 2 = .ok (.iload_n 2, 1) := by decide +kernel
theorem dX0_hasCodeNear_3 : decode cX0_hasCodeNear 3 = .ok (.aload_n 0, 1) := by decide +kernel
theorem dX0_hasCodeNear_4 : decode cX0_hasCodeNear 4 = .ok (.getfield 28, 3) := by decide +kernel
theorem dX0_hasCodeNear_7 : decode cX0_hasCodeNear 7 = .ok (.if_icmp .ge 24, 3) := by decide +kernel
theorem dX0_hasCodeNear_10 : decode cX0_hasCodeNear 10 = .ok (.iload_n 1, 1) := by decide +kernel
theorem dX0_hasCodeNear_11 : decode cX0_hasCodeNear 11 = .ok (.aload_n 0, 1) := by decide +kernel
theorem dX0_hasCodeNear_12 : decode cX0_hasCodeNear 12 = .ok (.iload_n 2, 1) := by decide +kernel
theorem dX0_hasCodeNear_13 : decode cX0_hasCodeNear 13 = .ok (.invokevirtual 49, 3) := by decide +kernel
theorem dX0_hasCodeNear_16 : decode cX0_hasCodeNear 16 = .ok (.invokestatic 53, 3) := by decide +kernel
theorem dX0_hasCodeNear_19 : decode cX0_hasCodeNear 19 = .ok (.iconst 2, 1) := by decide +kernel
theorem dX0_hasCodeNear_20 : decode cX0_hasCodeNear 20 = .ok (.if_icmp .ge 5, 3) := by decide +kernel
theorem dX0_hasCodeNear_23 : decode cX0_hasCodeNear 23 = .ok (.iconst 1, 1) := by decide +kernel
theorem dX0_hasCodeNear_24 : decode cX0_hasCodeNear 24 = .ok (.ireturn, 1) := by decide +kernel
theorem dX0_hasCodeNear_25 : decode cX0_hasCodeNear 25 = .ok (.iinc 2 1, 3) := by decide +kernel
theorem dX0_hasCodeNear_28 : decode cX0_hasCodeNear 28 = .ok (.goto (-26), 3) := by decide +kernel
theorem dX0_hasCodeNear_31 : decode cX0_hasCodeNear 31 = .ok (.iconst 0, 1) := by decide +kernel
theorem dX0_hasCodeNear_32 : decode cX0_hasCodeNear 32 = .ok (.ireturn, 1) := by decide +kernel
theorem dX0_addEntry_0 : decode cX0_addEntry 0 = .ok (.aload_n 0, 1) := by decide +kernel
theorem dX0_addEntry_1 : decode cX0_addEntry 1 = .ok (.getfield 28, 3) := by decide +kernel
theorem dX0_addEntry_4 : decode cX0_addEntry 4 = .ok (.iconst 4, 1) := by decide +kernel
theorem dX0_addEntry_5 : decode cX0_addEntry 5 = .ok (.imul, 1) := by decide +kernel
theorem dX0_addEntry_6 : decode cX0_addEntry 6 = .ok (.istore 6, 2) := by decide +kernel
theorem dX0_addEntry_8 : decode cX0_addEntry 8 = .ok (.aload_n 0, 1) := by decide +kernel
theorem dX0_addEntry_9 : decode cX0_addEntry 9 = .ok (.getfield 28, 3) := by decide +kernel
theorem dX0_addEntry_12 : decode cX0_addEntry 12 = .ok (.aload_n 0, 1) := by decide +kernel
theorem dX0_addEntry_13 : decode cX0_addEntry 13 = .ok (.getfield 15, 3) := by decide +kernel
theorem dX0_addEntry_16 : decode cX0_addEntry 16 = .ok (.arraylength, 1) := by decide +kernel
theorem dX0_addEntry_17 : decode cX0_addEntry 17 = .ok (.if_icmp .ge 15, 3) := by decide +kernel
theorem dX0_addEntry_20 : decode cX0_addEntry 20 = .ok (.iload 6, 2) := by decide +kernel
theorem dX0_addEntry_22 : decode cX0_addEntry 22 = .ok (.iconst 3, 1) := by decide +kernel
theorem dX0_addEntry_23 : decode cX0_addEntry 23 = .ok (.iadd, 1) := by decide +kernel
theorem dX0_addEntry_24 : decode cX0_addEntry 24 = .ok (.aload_n 0, 1) := by decide +kernel
theorem dX0_addEntry_25 : decode cX0_addEntry 25 = .ok (.getfield 18, 3) := by decide +kernel
theorem dX0_addEntry_28 : decode cX0_addEntry 28 = .ok (.arraylength, 1) := by decide +kernel
theorem dX0_addEntry_29 : decode cX0_addEntry 29 = .ok (.if_icmp .lt 5, 3) := by decide +kernel
theorem dX0_addEntry_32 : decode cX0_addEntry 32 = .ok (.iconst (-1), 1) := by decide +kernel
theorem dX0_addEntry_33 : decode cX0_addEntry 33 = .ok (.ireturn, 1) := by decide +kernel
theorem dX0_addEntry_34 : decode cX0_addEntry 34 = .ok (.aload_n 0, 1) := by decide +kernel
theorem dX0_addEntry_35 : decode cX0_addEntry 35 = .ok (.getfield 15, 3) := by decide +kernel
theorem dX0_addEntry_38 : decode cX0_addEntry 38 = .ok (.aload_n 0, 1) := by decide +kernel
theorem dX0_addEntry_39 : decode cX0_addEntry 39 = .ok (.getfield 28, 3) := by decide +kernel
theorem dX0_addEntry_42 : decode cX0_addEntry 42 = .ok (.iload_n 1, 1) := by decide +kernel
theorem dX0_addEntry_43 : decode cX0_addEntry 43 = .ok (.iastore, 1) := by decide +kernel
theorem dX0_addEntry_44 : decode cX0_addEntry 44 = .ok (.aload_n 0, 1) := by decide +kernel
theorem dX0_addEntry_45 : decode cX0_addEntry 45 = .ok (.getfield 18, 3) := by decide +kernel
theorem dX0_addEntry_48 : decode cX0_addEntry 48 = .ok (.iload 6, 2) := by decide +kernel
theorem dX0_addEntry_50 : decode cX0_addEntry 50 = .ok (.iload_n 2, 1) := by decide +kernel
theorem dX0_addEntry_51 : decode cX0_addEntry 51 = .ok (.iastore, 1) := by decide +kernel
theorem dX0_addEntry_52 : decode cX0_addEntry 52 = .ok (.aload_n 0, 1) := by decide +kernel
theorem dX0_addEntry_53 : decode cX0_addEntry 53 = .ok (.getfield 18, 3) := by decide +kernel
theorem dX0_addEntry_56 : decode cX0_addEntry 56 = .ok (.iload 6, 2) := by decide +kernel
theorem dX0_addEntry_58 : decode cX0_addEntry 58 = .ok (.iconst 1, 1) := by decide +kernel
theorem dX0_addEntry_59 : decode cX0_addEntry 59 = .ok (.iadd, 1) := by decide +kernel
theorem dX0_addEntry_60 : decode cX0_addEntry 60 = .ok (.iload_n 3, 1) := by decide +kernel
theorem dX0_addEntry_61 : decode cX0_addEntry 61 = .ok (.iastore, 1) := by decide +kernel
theorem dX0_addEntry_62 : decode cX0_addEntry 62 = .ok (.aload_n 0, 1) := by decide +kernel
theorem dX0_addEntry_63 : decode cX0_addEntry 63 = .ok (.getfield 18, 3) := by decide +kernel
theorem dX0_addEntry_66 : decode cX0_addEntry 66 = .ok (.iload 6, 2) := by decide +kernel
theorem dX0_addEntry_68 : decode cX0_addEntry 68 = .ok (.iconst 2, 1) := by decide +kernel
theorem dX0_addEntry_69 : decode cX0_addEntry 69 = .ok (.iadd, 1) := by decide +kernel
theorem dX0_addEntry_70 : decode cX0_addEntry 70 = .ok (.iload 4, 2) := by decide +kernel
theorem dX0_addEntry_72 : decode cX0_addEntry 72 = .ok (.iastore, 1) := by decide +kernel
theorem dX0_addEntry_73 : decode cX0_addEntry 73 = .ok (.aload_n 0, 1) := by decide +kernel
theorem dX0_addEntry_74 : decode cX0_addEntry 74 = .ok (.getfield 18, 3) := by decide +kernel
theorem dX0_addEntry_77 : decode cX0_addEntry 77 = .ok (.iload 6, 2) := by decide +kernel
theorem dX0_addEntry_79 : decode cX0_addEntry 79 = .ok (.iconst 3, 1) := by decide +kernel
theorem dX0_addEntry_80 : decode cX0_addEntry 80 = .ok (.iadd, 1) := by decide +kernel
theorem dX0_addEntry_81 : decode cX0_addEntry 81 = .ok (.iload 5, 2) := by decide +kernel
theorem dX0_addEntry_83 : decode cX0_addEntry 83 = .ok (.iastore, 1) := by decide +kernel
theorem dX0_addEntry_84 : decode cX0_addEntry 84 = .ok (.aload_n 0, 1) := by decide +kernel
theorem dX0_addEntry_85 : decode cX0_addEntry 85 = .ok (.dup, 1) := by decide +kernel
theorem dX0_addEntry_86 : decode cX0_addEntry 86 = .ok (.getfield 28, 3) := by decide +kernel
theorem dX0_addEntry_89 : decode cX0_addEntry 89 = .ok (.iconst 1, 1) := by decide +kernel
theorem dX0_addEntry_90 : decode cX0_addEntry 90 = .ok (.iadd, 1) := by decide +kernel
theorem dX0_addEntry_91 : decode cX0_addEntry 91 = .ok (.putfield 28, 3) := by decide +kernel
theorem dX0_addEntry_94 : decode cX0_addEntry 94 = .ok (.aload_n 0, 1) := by decide +kernel
theorem dX0_addEntry_95 : decode cX0_addEntry 95 = .ok (.getfield 28, 3) := by decide +kernel
theorem dX0_addEntry_98 : decode cX0_addEntry 98 = .ok (.iconst 1, 1) := by decide +kernel
theorem dX0_addEntry_99 : decode cX0_addEntry 99 = .ok (.isub, 1) := by decide +kernel
theorem dX0_addEntry_100 : decode cX0_addEntry 100 = .ok (.ireturn, 1) := by decide +kernel
theorem dX0_entryFor_0 : decode cX0_entryFor 0 = .ok (.iconst 0, 1) := by decide +kernel
theorem dX0_entryFor_1 : decode cX0_entryFor 1 = .ok (.istore 4, 2) := by decide +kernel
theorem dX0_entryFor_3 : decode cX0_entryFor 3 = .ok (.iload 4, 2) := by decide +kernel
theorem dX0_entryFor_5 : decode cX0_entryFor 5 = .ok (.aload_n 0, 1) := by decide +kernel
theorem dX0_entryFor_6 : decode cX0_entryFor 6 = .ok (.getfield 28, 3) := by decide +kernel
theorem dX0_entryFor_9 : decode cX0_entryFor 9 = .ok (.if_icmp .ge 24, 3) := by decide +kernel
theorem dX0_entryFor_12 : decode cX0_entryFor 12 = .ok (.aload_n 0, 1) := by decide +kernel
theorem dX0_entryFor_13 : decode cX0_entryFor 13 = .ok (.iload 4, 2) := by decide +kernel
theorem dX0_entryFor_15 : decode cX0_entryFor 15 = .ok (.aload_n 1, 1) := by decide +kernel
theorem dX0_entryFor_16 : decode cX0_entryFor 16 = .ok (.iload_n 2, 1) := by decide +kernel
theorem dX0_entryFor_17 : decode cX0_entryFor 17 = .ok (.iload_n 3, 1) := by decide +kernel
theorem dX0_entryFor_18 : decode cX0_entryFor 18 = .ok (.invokevirtual 56, 3) := by decide +kernel
theorem dX0_entryFor_21 : decode cX0_entryFor 21 = .ok (.ifCond .eq 6, 3) := by decide +kernel
theorem dX0_entryFor_24 : decode cX0_entryFor 24 = .ok (.iload 4, 2) := by decide +kernel
theorem dX0_entryFor_26 : decode cX0_entryFor 26 = .ok (.ireturn, 1) := by decide +kernel
theorem dX0_entryFor_27 : decode cX0_entryFor 27 = .ok (.iinc 4 1, 3) := by decide +kernel
theorem dX0_entryFor_30 : decode cX0_entryFor 30 = .ok (.goto (-27), 3) := by decide +kernel
theorem dX0_entryFor_33 : decode cX0_entryFor 33 = .ok (.iconst (-1), 1) := by decide +kernel
theorem dX0_entryFor_34 : decode cX0_entryFor 34 = .ok (.ireturn, 1) := by decide +kernel
theorem dX0_standsAt_0 : decode cX0_standsAt 0 = .ok (.iconst 0, 1) := by decide +kernel
theorem dX0_standsAt_1 : decode cX0_standsAt 1 = .ok (.istore 5, 2) := by decide +kernel
theorem dX0_standsAt_3 : decode cX0_standsAt 3 = .ok (.iload 5, 2) := by decide +kernel
theorem dX0_standsAt_5 : decode cX0_standsAt 5 = .ok (.iload 4, 2) := by decide +kernel
theorem dX0_standsAt_7 : decode cX0_standsAt 7 = .ok (.if_icmp .ge 29, 3) := by decide +kernel
theorem dX0_standsAt_10 : decode cX0_standsAt 10 = .ok (.aload_n 0, 1) := by decide +kernel
theorem dX0_standsAt_11 : decode cX0_standsAt 11 = .ok (.iload_n 1, 1) := by decide +kernel
theorem dX0_standsAt_12 : decode cX0_standsAt 12 = .ok (.iload 5, 2) := by decide +kernel
theorem dX0_standsAt_14 : decode cX0_standsAt 14 = .ok (.invokevirtual 45, 3) := by decide +kernel
theorem dX0_standsAt_17 : decode cX0_standsAt 17 = .ok (.aload_n 2, 1) := by decide +kernel
theorem dX0_standsAt_18 : decode cX0_standsAt 18 = .ok (.iload_n 3, 1) := by decide +kernel
theorem dX0_standsAt_19 : decode cX0_standsAt 19 = .ok (.iload 5, 2) := by decide +kernel
theorem dX0_standsAt_21 : decode cX0_standsAt 21 = .ok (.iadd, 1) := by decide +kernel
theorem dX0_standsAt_22 : decode cX0_standsAt 22 = .ok (.invokevirtual 60, 3) := by decide +kernel
theorem dX0_standsAt_25 : decode cX0_standsAt 25 = .ok (.if_icmp .eq 5, 3) := by decide +kernel
theorem dX0_standsAt_28 : decode cX0_standsAt 28 = .ok (.iconst 0, 1) := by decide +kernel
theorem dX0_standsAt_29 : decode cX0_standsAt 29 = .ok (.ireturn, 1) := by decide +kernel
theorem dX0_standsAt_30 : decode cX0_standsAt 30 = .ok (.iinc 5 1, 3) := by decide +kernel
theorem dX0_standsAt_33 : decode cX0_standsAt 33 = .ok (.goto (-30), 3) := by decide +kernel
theorem dX0_standsAt_36 : decode cX0_standsAt 36 = .ok (.aload_n 0, 1) := by decide +kernel
theorem dX0_standsAt_37 : decode cX0_standsAt 37 = .ok (.iload_n 1, 1) := by decide +kernel
theorem dX0_standsAt_38 : decode cX0_standsAt 38 = .ok (.iload 4, 2) := by decide +kernel
theorem dX0_standsAt_40 : decode cX0_standsAt 40 = .ok (.invokevirtual 45, 3) := by decide +kernel
theorem dX0_standsAt_43 : decode cX0_standsAt 43 = .ok (.iconst (-1), 1) := by decide +kernel
theorem dX0_standsAt_44 : decode cX0_standsAt 44 = .ok (.if_icmp .ne 7, 3) := by decide +kernel
theorem dX0_standsAt_47 : decode cX0_standsAt 47 = .ok (.iconst 1, 1) := by decide +kernel
theorem dX0_standsAt_48 : decode cX0_standsAt 48 = .ok (.goto 4, 3) := by decide +kernel
theorem dX0_standsAt_51 : decode cX0_standsAt 51 = .ok (.iconst 0, 1) := by decide +kernel
theorem dX0_standsAt_52 : decode cX0_standsAt 52 = .ok (.ireturn, 1) := by decide +kernel
theorem dX0_shifted_0 : decode cX0_shifted 0 = .ok (.aload_n 0, 1) := by decide +kernel
theorem dX0_shifted_1 : decode cX0_shifted 1 = .ok (.getfield 28, 3) := by decide +kernel
theorem dX0_shifted_4 : decode cX0_shifted 4 = .ok (.ifCond .le 8, 3) := by decide +kernel
theorem dX0_shifted_7 : decode cX0_shifted 7 = .ok (.iload_n 1, 1) := by decide +kernel
theorem dX0_shifted_8 : decode cX0_shifted 8 = .ok (.iconst (-1), 1) := by decide +kernel
theorem dX0_shifted_9 : decode cX0_shifted 9 = .ok (.if_icmp .ne 7, 3) := by decide +kernel
theorem dX0_shifted_12 : decode cX0_shifted 12 = .ok (.iconst (-1), 1) := by decide +kernel
theorem dX0_shifted_13 : decode cX0_shifted 13 = .ok (.goto 13, 3) := by decide +kernel
theorem dX0_shifted_16 : decode cX0_shifted 16 = .ok (.iload_n 1, 1) := by decide +kernel
theorem dX0_shifted_17 : decode cX0_shifted 17 = .ok (.iload_n 2, 1) := by decide +kernel
theorem dX0_shifted_18 : decode cX0_shifted 18 = .ok (.iadd, 1) := by decide +kernel
theorem dX0_shifted_19 : decode cX0_shifted 19 = .ok (.aload_n 0, 1) := by decide +kernel
theorem dX0_shifted_20 : decode cX0_shifted 20 = .ok (.getfield 28, 3) := by decide +kernel
theorem dX0_shifted_23 : decode cX0_shifted 23 = .ok (.invokestatic 65, 3) := by decide +kernel
theorem dX0_shifted_26 : decode cX0_shifted 26 = .ok (.ireturn, 1) := by decide +kernel
theorem dX0_search_0 : decode cX0_search 0 = .ok (.aload_n 0, 1) := by decide +kernel
theorem dX0_search_1 : decode cX0_search 1 = .ok (.iconst 0, 1) := by decide +kernel
theorem dX0_search_2 : decode cX0_search 2 = .ok (.putfield 31, 3) := by decide +kernel
theorem dX0_search_5 : decode cX0_search 5 = .ok (.iconst 0, 1) := by decide +kernel
theorem dX0_search_6 : decode cX0_search 6 = .ok (.istore_n 2, 1) := by decide +kernel
theorem dX0_search_7 : decode cX0_search 7 = .ok (.iload_n 2, 1) := by decide +kernel
theorem dX0_search_8 : decode cX0_search 8 = .ok (.aload_n 0, 1) := by decide +kernel
theorem dX0_search_9 : decode cX0_search 9 = .ok (.getfield 28, 3) := by decide +kernel
theorem dX0_search_12 : decode cX0_search 12 = .ok (.if_icmp .ge 23, 3) := by decide +kernel
theorem dX0_search_15 : decode cX0_search 15 = .ok (.aload_n 0, 1) := by decide +kernel
theorem dX0_search_16 : decode cX0_search 16 = .ok (.iload_n 2, 1) := by decide +kernel
theorem dX0_search_17 : decode cX0_search 17 = .ok (.invokevirtual 49, 3) := by decide +kernel
theorem dX0_search_20 : decode cX0_search 20 = .ok (.iload_n 1, 1) := by decide +kernel
theorem dX0_search_21 : decode cX0_search 21 = .ok (.if_icmp .ne 8, 3) := by decide +kernel
theorem dX0_search_24 : decode cX0_search 24 = .ok (.aload_n 0, 1) := by decide +kernel
theorem dX0_search_25 : decode cX0_search 25 = .ok (.iload_n 2, 1) := by decide +kernel
theorem dX0_search_26 : decode cX0_search 26 = .ok (.invokevirtual 70, 3) := by decide +kernel
theorem dX0_search_29 : decode cX0_search 29 = .ok (.iinc 2 1, 3) := by decide +kernel
theorem dX0_search_32 : decode cX0_search 32 = .ok (.goto (-25), 3) := by decide +kernel
theorem dX0_search_35 : decode cX0_search 35 = .ok (.aload_n 0, 1) := by decide +kernel
theorem dX0_search_36 : decode cX0_search 36 = .ok (.getfield 31, 3) := by decide +kernel
theorem dX0_search_39 : decode cX0_search 39 = .ok (.ifCond .le 4, 3) := by decide +kernel
theorem dX0_search_42 : decode cX0_search 42 = .ok (.return_, 1) := by decide +kernel
theorem dX0_search_43 : decode cX0_search 43 = .ok (.iconst 0, 1) := by decide +kernel
theorem dX0_search_44 : decode cX0_search 44 = .ok (.istore_n 2, 1) := by decide +kernel
theorem dX0_search_45 : decode cX0_search 45 = .ok (.iload_n 2, 1) := by decide +kernel
theorem dX0_search_46 : decode cX0_search 46 = .ok (.aload_n 0, 1) := by decide +kernel
theorem dX0_search_47 : decode cX0_search 47 = .ok (.getfield 28, 3) := by decide +kernel
theorem dX0_search_50 : decode cX0_search 50 = .ok (.if_icmp .ge 39, 3) := by decide +kernel
theorem dX0_search_53 : decode cX0_search 53 = .ok (.iload_n 1, 1) := by decide +kernel
theorem dX0_search_54 : decode cX0_search 54 = .ok (.aload_n 0, 1) := by decide +kernel
theorem dX0_search_55 : decode cX0_search 55 = .ok (.iload_n 2, 1) := by decide +kernel
theorem dX0_search_56 : decode cX0_search 56 = .ok (.invokevirtual 49, 3) := by decide +kernel
theorem dX0_search_59 : decode cX0_search 59 = .ok (.invokestatic 53, 3) := by decide +kernel
theorem dX0_search_62 : decode cX0_search 62 = .ok (.iconst 1, 1) := by decide +kernel
theorem dX0_search_63 : decode cX0_search 63 = .ok (.if_icmp .eq 15, 3) := by decide +kernel
theorem dX0_search_66 : decode cX0_search 66 = .ok (.iload_n 1, 1) := by decide +kernel
theorem dX0_search_67 : decode cX0_search 67 = .ok (.aload_n 0, 1) := by decide +kernel
theorem dX0_search_68 : decode cX0_search 68 = .ok (.iload_n 2, 1) := by decide +kernel
theorem dX0_search_69 : decode cX0_search 69 = .ok (.invokevirtual 49, 3) := by decide +kernel
theorem dX0_search_72 : decode cX0_search 72 = .ok (.invokestatic 74, 3) := by decide +kernel
theorem dX0_search_75 : decode cX0_search 75 = .ok (.ifCond .eq 8, 3) := by decide +kernel
theorem dX0_search_78 : decode cX0_search 78 = .ok (.aload_n 0, 1) := by decide +kernel
theorem dX0_search_79 : decode cX0_search 79 = .ok (.iload_n 2, 1) := by decide +kernel
theorem dX0_search_80 : decode cX0_search 80 = .ok (.invokevirtual 70, 3) := by decide +kernel
theorem dX0_search_83 : decode cX0_search 83 = .ok (.iinc 2 1, 3) := by decide +kernel
theorem dX0_search_86 : decode cX0_search 86 = .ok (.goto (-41), 3) := by decide +kernel
theorem dX0_search_89 : decode cX0_search 89 = .ok (.return_, 1) := by decide +kernel
theorem dX0_addFind_0 : decode cX0_addFind 0 = .ok (.aload_n 0, 1) := by decide +kernel
theorem dX0_addFind_1 : decode cX0_addFind 1 = .ok (.getfield 31, 3) := by decide +kernel
theorem dX0_addFind_4 : decode cX0_addFind 4 = .ok (.aload_n 0, 1) := by decide +kernel
theorem dX0_addFind_5 : decode cX0_addFind 5 = .ok (.getfield 21, 3) := by decide +kernel
theorem dX0_addFind_8 : decode cX0_addFind 8 = .ok (.arraylength, 1) := by decide +kernel
theorem dX0_addFind_9 : decode cX0_addFind 9 = .ok (.if_icmp .ge 23, 3) := by decide +kernel
theorem dX0_addFind_12 : decode cX0_addFind 12 = .ok (.aload_n 0, 1) := by decide +kernel
theorem dX0_addFind_13 : decode cX0_addFind 13 = .ok (.getfield 21, 3) := by decide +kernel
theorem dX0_addFind_16 : decode cX0_addFind 16 = .ok (.aload_n 0, 1) := by decide +kernel
theorem dX0_addFind_17 : decode cX0_addFind 17 = .ok (.getfield 31, 3) := by decide +kernel
theorem dX0_addFind_20 : decode cX0_addFind 20 = .ok (.iload_n 1, 1) := by decide +kernel
theorem dX0_addFind_21 : decode cX0_addFind 21 = .ok (.iastore, 1) := by decide +kernel
theorem dX0_addFind_22 : decode cX0_addFind 22 = .ok (.aload_n 0, 1) := by decide +kernel
theorem dX0_addFind_23 : decode cX0_addFind 23 = .ok (.dup, 1) := by decide +kernel
theorem dX0_addFind_24 : decode cX0_addFind 24 = .ok (.getfield 31, 3) := by decide +kernel
theorem dX0_addFind_27 : decode cX0_addFind 27 = .ok (.iconst 1, 1) := by decide +kernel
theorem dX0_addFind_28 : decode cX0_addFind 28 = .ok (.iadd, 1) := by decide +kernel
theorem dX0_addFind_29 : decode cX0_addFind 29 = .ok (.putfield 31, 3) := by decide +kernel
theorem dX0_addFind_32 : decode cX0_addFind 32 = .ok (.return_, 1) := by decide +kernel
theorem dX0_findAt_0 : decode cX0_findAt 0 = .ok (.iload_n 1, 1) := by decide +kernel
theorem dX0_findAt_1 : decode cX0_findAt 1 = .ok (.iconst 0, 1) := by decide +kernel
theorem dX0_findAt_2 : decode cX0_findAt 2 = .ok (.aload_n 0, 1) := by decide +kernel
theorem dX0_findAt_3 : decode cX0_findAt 3 = .ok (.getfield 31, 3) := by decide +kernel
theorem dX0_findAt_6 : decode cX0_findAt 6 = .ok (.iconst 1, 1) := by decide +kernel
theorem dX0_findAt_7 : decode cX0_findAt 7 = .ok (.isub, 1) := by decide +kernel
theorem dX0_findAt_8 : decode cX0_findAt 8 = .ok (.invokestatic 34, 3) := by decide +kernel
theorem dX0_findAt_11 : decode cX0_findAt 11 = .ok (.ifCond .ne 12, 3) := by decide +kernel
theorem dX0_findAt_14 : decode cX0_findAt 14 = .ok (.iload_n 1, 1) := by decide +kernel
theorem dX0_findAt_15 : decode cX0_findAt 15 = .ok (.aload_n 0, 1) := by decide +kernel
theorem dX0_findAt_16 : decode cX0_findAt 16 = .ok (.getfield 21, 3) := by decide +kernel
theorem dX0_findAt_19 : decode cX0_findAt 19 = .ok (.arraylength, 1) := by decide +kernel
theorem dX0_findAt_20 : decode cX0_findAt 20 = .ok (.if_icmp .lt 7, 3) := by decide +kernel
theorem dX0_findAt_23 : decode cX0_findAt 23 = .ok (.iconst (-1), 1) := by decide +kernel
theorem dX0_findAt_24 : decode cX0_findAt 24 = .ok (.goto 9, 3) := by decide +kernel
theorem dX0_findAt_27 : decode cX0_findAt 27 = .ok (.aload_n 0, 1) := by decide +kernel
theorem dX0_findAt_28 : decode cX0_findAt 28 = .ok (.getfield 21, 3) := by decide +kernel
theorem dX0_findAt_31 : decode cX0_findAt 31 = .ok (.iload_n 1, 1) := by decide +kernel
theorem dX0_findAt_32 : decode cX0_findAt 32 = .ok (.iaload, 1) := by decide +kernel
theorem dX0_findAt_33 : decode cX0_findAt 33 = .ok (.ireturn, 1) := by decide +kernel
theorem dX0_onlyFind_0 : decode cX0_onlyFind 0 = .ok (.aload_n 0, 1) := by decide +kernel
theorem dX0_onlyFind_1 : decode cX0_onlyFind 1 = .ok (.iload_n 1, 1) := by decide +kernel
theorem dX0_onlyFind_2 : decode cX0_onlyFind 2 = .ok (.invokevirtual 78, 3) := by decide +kernel
theorem dX0_onlyFind_5 : decode cX0_onlyFind 5 = .ok (.aload_n 0, 1) := by decide +kernel
theorem dX0_onlyFind_6 : decode cX0_onlyFind 6 = .ok (.getfield 31, 3) := by decide +kernel
theorem dX0_onlyFind_9 : decode cX0_onlyFind 9 = .ok (.iconst 1, 1) := by decide +kernel
theorem dX0_onlyFind_10 : decode cX0_onlyFind 10 = .ok (.if_icmp .ne 11, 3) := by decide +kernel
theorem dX0_onlyFind_13 : decode cX0_onlyFind 13 = .ok (.aload_n 0, 1) := by decide +kernel
theorem dX0_onlyFind_14 : decode cX0_onlyFind 14 = .ok (.iconst 0, 1) := by decide +kernel
theorem dX0_onlyFind_15 : decode cX0_onlyFind 15 = .ok (.invokevirtual 81, 3) := by decide +kernel
theorem dX0_onlyFind_18 : decode cX0_onlyFind 18 = .ok (.goto 4, 3) := by decide +kernel
theorem dX0_onlyFind_21 : decode cX0_onlyFind 21 = .ok (.iconst (-1), 1) := by decide +kernel
theorem dX0_onlyFind_22 : decode cX0_onlyFind 22 = .ok (.ireturn, 1) := by decide +kernel
theorem dX1_init_0 : decode cX1_init 0 = .ok (.aload_n 0, 1) := by decide +kernel
theorem dX1_init_1 : decode cX1_init 1 = .ok (.invokespecial 1, 3) := by decide +kernel
theorem dX1_init_4 : decode cX1_init 4 = .ok (.aload_n 0, 1) := by decide +kernel
theorem dX1_init_5 : decode cX1_init 5 = .ok (.iload_n 1, 1) := by decide +kernel
theorem dX1_init_6 : decode cX1_init 6 = .ok (.putfield 7, 3) := by decide +kernel
theorem dX1_init_9 : decode cX1_init 9 = .ok (.aload_n 0, 1) := by decide +kernel
theorem dX1_init_10 : decode cX1_init 10 = .ok (.iload_n 2, 1) := by decide +kernel
theorem dX1_init_11 : decode cX1_init 11 = .ok (.putfield 13, 3) := by decide +kernel
theorem dX1_init_14 : decode cX1_init 14 = .ok (.aload_n 0, 1) := by decide +kernel
theorem dX1_init_15 : decode cX1_init 15 = .ok (.iload_n 3, 1) := by decide +kernel
theorem dX1_init_16 : decode cX1_init 16 = .ok (.putfield 16, 3) := by decide +kernel
theorem dX1_init_19 : decode cX1_init 19 = .ok (.aload_n 0, 1) := by decide +kernel
theorem dX1_init_20 : decode cX1_init 20 = .ok (.iload 4, 2) := by decide +kernel
theorem dX1_init_22 : decode cX1_init 22 = .ok (.putfield 19, 3) := by decide +kernel
theorem dX1_init_25 : decode cX1_init 25 = .ok (.aload_n 0, 1) := by decide +kernel
theorem dX1_init_26 : decode cX1_init 26 = .ok (.iconst 0, 1) := by decide +kernel
theorem dX1_init_27 : decode cX1_init 27 = .ok (.putfield 22, 3) := by decide +kernel
theorem dX1_init_30 : decode cX1_init 30 = .ok (.aload_n 0, 1) := by decide +kernel
theorem dX1_init_31 : decode cX1_init 31 = .ok (.iconst 0, 1) := by decide +kernel
theorem dX1_init_32 : decode cX1_init 32 = .ok (.putfield 26, 3) := by decide +kernel
theorem dX1_init_35 : decode cX1_init 35 = .ok (.return_, 1) := by decide +kernel
theorem dX1_touches_0 : decode cX1_touches 0 = .ok (.iload_n 1, 1) := by decide +kernel
theorem dX1_touches_1 : decode cX1_touches 1 = .ok (.aload_n 0, 1) := by decide +kernel
theorem dX1_touches_2 : decode cX1_touches 2 = .ok (.getfield 7, 3) := by decide +kernel
theorem dX1_touches_5 : decode cX1_touches 5 = .ok (.if_icmp .eq 11, 3) := by decide +kernel
theorem dX1_touches_8 : decode cX1_touches 8 = .ok (.iload_n 1, 1) := by decide +kernel
theorem dX1_touches_9 : decode cX1_touches 9 = .ok (.aload_n 0, 1) := by decide +kernel
theorem dX1_touches_10 : decode cX1_touches 10 = .ok (.getfield 13, 3) := by decide +kernel
theorem dX1_touches_13 : decode cX1_touches 13 = .ok (.if_icmp .ne 7, 3) := by decide +kernel
theorem dX1_touches_16 : decode cX1_touches 16 = .ok (.iconst 1, 1) := by decide +kernel
theorem dX1_touches_17 : decode cX1_touches 17 = .ok (.goto 4, 3) := by decide +kernel
theorem dX1_touches_20 : decode cX1_touches 20 = .ok (.iconst 0, 1) := by decide +kernel
theorem dX1_touches_21 : decode cX1_touches 21 = .ok (.ireturn, 1) := by decide +kernel
theorem dX1_otherEnd_0 : decode cX1_otherEnd 0 = .ok (.iload_n 1, 1) := by decide +kernel
theorem dX1_otherEnd_1 : decode cX1_otherEnd 1 = .ok (.aload_n 0, 1) := by decide +kernel
theorem dX1_otherEnd_2 : decode cX1_otherEnd 2 = .ok (.getfield 7, 3) := by decide +kernel
theorem dX1_otherEnd_5 : decode cX1_otherEnd 5 = .ok (.if_icmp .ne 10, 3) := by decide +kernel
theorem dX1_otherEnd_8 : decode cX1_otherEnd 8 = .ok (.aload_n 0, 1) := by decide +kernel
theorem dX1_otherEnd_9 : decode cX1_otherEnd 9 = .ok (.getfield 13, 3) := by decide +kernel
theorem dX1_otherEnd_12 : decode cX1_otherEnd 12 = .ok (.goto 7, 3) := by decide +kernel
theorem dX1_otherEnd_15 : decode cX1_otherEnd 15 = .ok (.aload_n 0, 1) := by decide +kernel
theorem dX1_otherEnd_16 : decode cX1_otherEnd 16 = .ok (.getfield 7, 3) := by decide +kernel
theorem dX1_otherEnd_19 : decode cX1_otherEnd 19 = .ok (.ireturn, 1) := by decide +kernel
theorem dX2_init_0 : decode cX2_init 0 = .ok (.aload_n 0, 1) := by decide +kernel
theorem dX2_init_1 : decode cX2_init 1 = .ok (.invokespecial 3, 3) := by decide +kernel
theorem dX2_init_4 : decode cX2_init 4 = .ok (.aload_n 0, 1) := by decide +kernel
theorem dX2_init_5 : decode cX2_init 5 = .ok (.bipush 24, 2) := by decide +kernel
theorem dX2_init_7 : decode cX2_init 7 = .ok (.newarray .int, 2) := by decide +kernel
theorem dX2_init_9 : decode cX2_init 9 = .ok (.putfield 9, 3) := by decide +kernel
theorem dX2_init_12 : decode cX2_init 12 = .ok (.aload_n 0, 1) := by decide +kernel
theorem dX2_init_13 : decode cX2_init 13 = .ok (.iconst 0, 1) := by decide +kernel
theorem dX2_init_14 : decode cX2_init 14 = .ok (.putfield 15, 3) := by decide +kernel
theorem dX2_init_17 : decode cX2_init 17 = .ok (.return_, 1) := by decide +kernel
theorem dX2_add_0 : decode cX2_add 0 = .ok (.aload_n 0, 1) := by decide +kernel
theorem dX2_add_1 : decode cX2_add 1 = .ok (.getfield 15, 3) := by decide +kernel
theorem dX2_add_4 : decode cX2_add 4 = .ok (.aload_n 0, 1) := by decide +kernel
theorem dX2_add_5 : decode cX2_add 5 = .ok (.getfield 9, 3) := by decide +kernel
theorem dX2_add_8 : decode cX2_add 8 = .ok (.arraylength, 1) := by decide +kernel
theorem dX2_add_9 : decode cX2_add 9 = .ok (.if_icmp .lt 5, 3) := by decide +kernel
theorem dX2_add_12 : decode cX2_add 12 = .ok (.iconst 0, 1) := by decide +kernel
theorem dX2_add_13 : decode cX2_add 13 = .ok (.ireturn, 1) := by decide +kernel
theorem dX2_add_14 : decode cX2_add 14 = .ok (.aload_n 0, 1) := by decide +kernel
theorem dX2_add_15 : decode cX2_add 15 = .ok (.getfield 9, 3) := by decide +kernel
theorem dX2_add_18 : decode cX2_add 18 = .ok (.aload_n 0, 1) := by decide +kernel
theorem dX2_add_19 : decode cX2_add 19 = .ok (.getfield 15, 3) := by decide +kernel
theorem dX2_add_22 : decode cX2_add 22 = .ok (.iload_n 1, 1) := by decide +kernel
theorem dX2_add_23 : decode cX2_add 23 = .ok (.iastore, 1) := by decide +kernel
theorem dX2_add_24 : decode cX2_add 24 = .ok (.aload_n 0, 1) := by decide +kernel
theorem dX2_add_25 : decode cX2_add 25 = .ok (.dup, 1) := by decide +kernel
theorem dX2_add_26 : decode cX2_add 26 = .ok (.getfield 15, 3) := by decide +kernel
theorem dX2_add_29 : decode cX2_add 29 = .ok (.iconst 1, 1) := by decide +kernel
theorem dX2_add_30 : decode cX2_add 30 = .ok (.iadd, 1) := by decide +kernel
theorem dX2_add_31 : decode cX2_add 31 = .ok (.putfield 15, 3) := by decide +kernel
theorem dX2_add_34 : decode cX2_add 34 = .ok (.iconst 1, 1) := by decide +kernel
theorem dX2_add_35 : decode cX2_add 35 = .ok (.ireturn, 1) := by decide +kernel
theorem dX2_ideaAt_0 : decode cX2_ideaAt 0 = .ok (.iload_n 1, 1) := by decide +kernel
theorem dX2_ideaAt_1 : decode cX2_ideaAt 1 = .ok (.iconst 0, 1) := by decide +kernel
theorem dX2_ideaAt_2 : decode cX2_ideaAt 2 = .ok (.aload_n 0, 1) := by decide +kernel
theorem dX2_ideaAt_3 : decode cX2_ideaAt 3 = .ok (.getfield 15, 3) := by decide +kernel
theorem dX2_ideaAt_6 : decode cX2_ideaAt 6 = .ok (.iconst 1, 1) := by decide +kernel
theorem dX2_ideaAt_7 : decode cX2_ideaAt 7 = .ok (.isub, 1) := by decide +kernel
theorem dX2_ideaAt_8 : decode cX2_ideaAt 8 = .ok (.invokestatic 19, 3) := by decide +kernel
theorem dX2_ideaAt_11 : decode cX2_ideaAt 11 = .ok (.ifCond .ne 12, 3) := by decide +kernel
theorem dX2_ideaAt_14 : decode cX2_ideaAt 14 = .ok (.iload_n 1, 1) := by decide +kernel
theorem dX2_ideaAt_15 : decode cX2_ideaAt 15 = .ok (.aload_n 0, 1) := by decide +kernel
theorem dX2_ideaAt_16 : decode cX2_ideaAt 16 = .ok (.getfield 9, 3) := by decide +kernel
theorem dX2_ideaAt_19 : decode cX2_ideaAt 19 = .ok (.arraylength, 1) := by decide +kernel
theorem dX2_ideaAt_20 : decode cX2_ideaAt 20 = .ok (.if_icmp .lt 7, 3) := by decide +kernel
theorem dX2_ideaAt_23 : decode cX2_ideaAt 23 = .ok (.iconst (-1), 1) := by decide +kernel
theorem dX2_ideaAt_24 : decode cX2_ideaAt 24 = .ok (.goto 9, 3) := by decide +kernel
theorem dX2_ideaAt_27 : decode cX2_ideaAt 27 = .ok (.aload_n 0, 1) := by decide +kernel
theorem dX2_ideaAt_28 : decode cX2_ideaAt 28 = .ok (.getfield 9, 3) := by decide +kernel
theorem dX2_ideaAt_31 : decode cX2_ideaAt 31 = .ok (.iload_n 1, 1) := by decide +kernel
theorem dX2_ideaAt_32 : decode cX2_ideaAt 32 = .ok (.iaload, 1) := by decide +kernel
theorem dX2_ideaAt_33 : decode cX2_ideaAt 33 = .ok (.ireturn, 1) := by decide +kernel
theorem dX3_init_0 : decode cX3_init 0 = .ok (.aload_n 0, 1) := by decide +kernel
theorem dX3_init_1 : decode cX3_init 1 = .ok (.invokespecial 3, 3) := by decide +kernel
theorem dX3_init_4 : decode cX3_init 4 = .ok (.aload_n 0, 1) := by decide +kernel
theorem dX3_init_5 : decode cX3_init 5 = .ok (.iload_n 1, 1) := by decide +kernel
theorem dX3_init_6 : decode cX3_init 6 = .ok (.putfield 9, 3) := by decide +kernel
theorem dX3_init_9 : decode cX3_init 9 = .ok (.aload_n 0, 1) := by decide +kernel
theorem dX3_init_10 : decode cX3_init 10 = .ok (.iload_n 2, 1) := by decide +kernel
theorem dX3_init_11 : decode cX3_init 11 = .ok (.putfield 15, 3) := by decide +kernel
theorem dX3_init_14 : decode cX3_init 14 = .ok (.aload_n 0, 1) := by decide +kernel
theorem dX3_init_15 : decode cX3_init 15 = .ok (.iload_n 3, 1) := by decide +kernel
theorem dX3_init_16 : decode cX3_init 16 = .ok (.putfield 18, 3) := by decide +kernel
theorem dX3_init_19 : decode cX3_init 19 = .ok (.aload_n 0, 1) := by decide +kernel
theorem dX3_init_20 : decode cX3_init 20 = .ok (.aload 4, 2) := by decide +kernel
theorem dX3_init_22 : decode cX3_init 22 = .ok (.getfield 21, 3) := by decide +kernel
theorem dX3_init_25 : decode cX3_init 25 = .ok (.putfield 26, 3) := by decide +kernel
theorem dX3_init_28 : decode cX3_init 28 = .ok (.aload_n 0, 1) := by decide +kernel
theorem dX3_init_29 : decode cX3_init 29 = .ok (.aload 4, 2) := by decide +kernel
theorem dX3_init_31 : decode cX3_init 31 = .ok (.getfield 27, 3) := by decide +kernel
theorem dX3_init_34 : decode cX3_init 34 = .ok (.ifCond .le 7, 3) := by decide +kernel
theorem dX3_init_37 : decode cX3_init 37 = .ok (.iconst 1, 1) := by decide +kernel
theorem dX3_init_38 : decode cX3_init 38 = .ok (.goto 4, 3) := by decide +kernel
theorem dX3_init_41 : decode cX3_init 41 = .ok (.iconst 0, 1) := by decide +kernel
theorem dX3_init_42 : decode cX3_init 42 = .ok (.putfield 30, 3) := by decide +kernel
theorem dX3_init_45 : decode cX3_init 45 = .ok (.aload_n 0, 1) := by decide +kernel
theorem dX3_init_46 : decode cX3_init 46 = .ok (.aload 4, 2) := by decide +kernel
theorem dX3_init_48 : decode cX3_init 48 = .ok (.getfield 34, 3) := by decide +kernel
theorem dX3_init_51 : decode cX3_init 51 = .ok (.newarray .int, 2) := by decide +kernel
theorem dX3_init_53 : decode cX3_init 53 = .ok (.putfield 37, 3) := by decide +kernel
theorem dX3_init_56 : decode cX3_init 56 = .ok (.aload_n 0, 1) := by decide +kernel
theorem dX3_init_57 : decode cX3_init 57 = .ok (.aload 4, 2) := by decide +kernel
theorem dX3_init_59 : decode cX3_init 59 = .ok (.getfield 34, 3) := by decide +kernel
theorem dX3_init_62 : decode cX3_init 62 = .ok (.newarray .int, 2) := by decide +kernel
theorem dX3_init_64 : decode cX3_init 64 = .ok (.putfield 41, 3) := by decide +kernel
theorem dX3_init_67 : decode cX3_init 67 = .ok (.iconst 0, 1) := by decide +kernel
theorem dX3_init_68 : decode cX3_init 68 = .ok (.istore 6, 2) := by decide +kernel
theorem dX3_init_70 : decode cX3_init 70 = .ok (.iload 6, 2) := by decide +kernel
theorem dX3_init_72 : decode cX3_init 72 = .ok (.aload_n 0, 1) := by decide +kernel
theorem dX3_init_73 : decode cX3_init 73 = .ok (.getfield 37, 3) := by decide +kernel
theorem dX3_init_76 : decode cX3_init 76 = .ok (.arraylength, 1) := by decide +kernel
theorem dX3_init_77 : decode cX3_init 77 = .ok (.if_icmp .ge 47, 3) := by decide +kernel
theorem dX3_init_80 : decode cX3_init 80 = .ok (.iload 6, 2) := by decide +kernel
theorem dX3_init_82 : decode cX3_init 82 = .ok (.aload_n 0, 1) := by decide +kernel
theorem dX3_init_83 : decode cX3_init 83 = .ok (.getfield 41, 3) := by decide +kernel
theorem dX3_init_86 : decode cX3_init 86 = .ok (.arraylength, 1) := by decide +kernel
theorem dX3_init_87 : decode cX3_init 87 = .ok (.if_icmp .ge 37, 3) := by decide +kernel
theorem dX3_init_90 : decode cX3_init 90 = .ok (.aload_n 0, 1) := by decide +kernel
theorem dX3_init_91 : decode cX3_init 91 = .ok (.getfield 37, 3) := by decide +kernel
theorem dX3_init_94 : decode cX3_init 94 = .ok (.iload 6, 2) := by decide +kernel
theorem dX3_init_96 : decode cX3_init 96 = .ok (.aload 4, 2) := by decide +kernel
theorem dX3_init_98 : decode cX3_init 98 = .ok (.iload 6, 2) := by decide +kernel
theorem dX3_init_100 : decode cX3_init 100 = .ok (.invokevirtual 44, 3) := by decide +kernel
theorem dX3_init_103 : decode cX3_init 103 = .ok (.iastore, 1) := by decide +kernel
theorem dX3_init_104 : decode cX3_init 104 = .ok (.aload_n 0, 1) := by decide +kernel
theorem dX3_init_105 : decode cX3_init 105 = .ok (.getfield 41, 3) := by decide +kernel
theorem dX3_init_108 : decode cX3_init 108 = .ok (.iload 6, 2) := by decide +kernel
theorem dX3_init_110 : decode cX3_init 110 = .ok (.aload_n 0, 1) := by decide +kernel
theorem dX3_init_111 : decode cX3_init 111 = .ok (.getfield 37, 3) := by decide +kernel
theorem dX3_init_114 : decode cX3_init 114 = .ok (.iload 6, 2) := by decide +kernel
theorem dX3_init_116 : decode cX3_init 116 = .ok (.iaload, 1) := by decide +kernel
theorem dX3_init_117 : decode cX3_init 117 = .ok (.iastore, 1) := by decide +kernel
theorem dX3_init_118 : decode cX3_init 118 = .ok (.iinc 6 1, 3) := by decide +kernel
theorem dX3_init_121 : decode cX3_init 121 = .ok (.goto (-51), 3) := by decide +kernel
theorem dX3_init_124 : decode cX3_init 124 = .ok (.aload_n 0, 1) := by decide +kernel
theorem dX3_init_125 : decode cX3_init 125 = .ok (.aload 5, 2) := by decide +kernel
theorem dX3_init_127 : decode cX3_init 127 = .ok (.getfield 48, 3) := by decide +kernel
theorem dX3_init_130 : decode cX3_init 130 = .ok (.aload 5, 2) := by decide +kernel
theorem dX3_init_132 : decode cX3_init 132 = .ok (.getfield 53, 3) := by decide +kernel
theorem dX3_init_135 : decode cX3_init 135 = .ok (.invokestatic 56, 3) := by decide +kernel
theorem dX3_init_138 : decode cX3_init 138 = .ok (.putfield 62, 3) := by decide +kernel
theorem dX3_init_141 : decode cX3_init 141 = .ok (.aload_n 0, 1) := by decide +kernel
theorem dX3_init_142 : decode cX3_init 142 = .ok (.aload_n 0, 1) := by decide +kernel
theorem dX3_init_143 : decode cX3_init 143 = .ok (.aload 5, 2) := by decide +kernel
theorem dX3_init_145 : decode cX3_init 145 = .ok (.invokevirtual 63, 3) := by decide +kernel
theorem dX3_init_148 : decode cX3_init 148 = .ok (.invokevirtual 67, 3) := by decide +kernel
theorem dX3_init_151 : decode cX3_init 151 = .ok (.putfield 70, 3) := by decide +kernel
theorem dX3_init_154 : decode cX3_init 154 = .ok (.aload_n 0, 1) := by decide +kernel
theorem dX3_init_155 : decode cX3_init 155 = .ok (.iconst 0, 1) := by decide +kernel
theorem dX3_init_156 : decode cX3_init 156 = .ok (.putfield 73, 3) := by decide +kernel
theorem dX3_init_159 : decode cX3_init 159 = .ok (.aload_n 0, 1) := by decide +kernel
theorem dX3_init_160 : decode cX3_init 160 = .ok (.iload_n 1, 1) := by decide +kernel
theorem dX3_init_161 : decode cX3_init 161 = .ok (.putfield 76, 3) := by decide +kernel
theorem dX3_init_164 : decode cX3_init 164 = .ok (.aload_n 0, 1) := by decide +kernel
theorem dX3_init_165 : decode cX3_init 165 = .ok (.iconst 0, 1) := by decide +kernel
theorem dX3_init_166 : decode cX3_init 166 = .ok (.putfield 79, 3) := by decide +kernel
theorem dX3_init_169 : decode cX3_init 169 = .ok (.aload_n 0, 1) := by decide +kernel
theorem dX3_init_170 : decode cX3_init 170 = .ok (.iconst 0, 1) := by decide +kernel
theorem dX3_init_171 : decode cX3_init 171 = .ok (.putfield 82, 3) := by decide +kernel
theorem dX3_init_174 : decode cX3_init 174 = .ok (.return_, 1) := by decide +kernel
theorem dX3_priceAt_0 : decode cX3_priceAt 0 = .ok (.aload_n 0, 1) := by decide +kernel
theorem dX3_priceAt_1 : decode cX3_priceAt 1 = .ok (.getfield 18, 3) := by decide +kernel
theorem dX3_priceAt_4 : decode cX3_priceAt 4 = .ok (.iconst 2, 1) := by decide +kernel
theorem dX3_priceAt_5 : decode cX3_priceAt 5 = .ok (.if_icmp .ne 7, 3) := by decide +kernel
theorem dX3_priceAt_8 : decode cX3_priceAt 8 = .ok (.iconst 4, 1) := by decide +kernel
theorem dX3_priceAt_9 : decode cX3_priceAt 9 = .ok (.goto 16, 3) := by decide +kernel
theorem dX3_priceAt_12 : decode cX3_priceAt 12 = .ok (.aload_n 0, 1) := by decide +kernel
theorem dX3_priceAt_13 : decode cX3_priceAt 13 = .ok (.getfield 18, 3) := by decide +kernel
theorem dX3_priceAt_16 : decode cX3_priceAt 16 = .ok (.iconst 1, 1) := by decide +kernel
theorem dX3_priceAt_17 : decode cX3_priceAt 17 = .ok (.if_icmp .ne 7, 3) := by decide +kernel
theorem dX3_priceAt_20 : decode cX3_priceAt 20 = .ok (.iconst 2, 1) := by decide +kernel
theorem dX3_priceAt_21 : decode cX3_priceAt 21 = .ok (.goto 4, 3) := by decide +kernel
theorem dX3_priceAt_24 : decode cX3_priceAt 24 = .ok (.iconst 1, 1) := by decide +kernel
theorem dX3_priceAt_25 : decode cX3_priceAt 25 = .ok (.istore_n 2, 1) := by decide +kernel
theorem dX3_priceAt_26 : decode cX3_priceAt 26 = .ok (.iload_n 1, 1) := by decide +kernel
theorem dX3_priceAt_27 : decode cX3_priceAt 27 = .ok (.aload_n 0, 1) := by decide +kernel
theorem dX3_priceAt_28 : decode cX3_priceAt 28 = .ok (.getfield 26, 3) := by decide +kernel
theorem dX3_priceAt_31 : decode cX3_priceAt 31 = .ok (.imul, 1) := by decide +kernel
theorem dX3_priceAt_32 : decode cX3_priceAt 32 = .ok (.iload_n 2, 1) := by decide +kernel
theorem dX3_priceAt_33 : decode cX3_priceAt 33 = .ok (.imul, 1) := by decide +kernel
theorem dX3_priceAt_34 : decode cX3_priceAt 34 = .ok (.ireturn, 1) := by decide +kernel
theorem dX3_hasWord_0 : decode cX3_hasWord 0 = .ok (.iload_n 1, 1) := by decide +kernel
theorem dX3_hasWord_1 : decode cX3_hasWord 1 = .ok (.iconst 0, 1) := by decide +kernel
theorem dX3_hasWord_2 : decode cX3_hasWord 2 = .ok (.aload_n 0, 1) := by decide +kernel
theorem dX3_hasWord_3 : decode cX3_hasWord 3 = .ok (.getfield 37, 3) := by decide +kernel
theorem dX3_hasWord_6 : decode cX3_hasWord 6 = .ok (.arraylength, 1) := by decide +kernel
theorem dX3_hasWord_7 : decode cX3_hasWord 7 = .ok (.iconst 1, 1) := by decide +kernel
theorem dX3_hasWord_8 : decode cX3_hasWord 8 = .ok (.isub, 1) := by decide +kernel
theorem dX3_hasWord_9 : decode cX3_hasWord 9 = .ok (.invokestatic 85, 3) := by decide +kernel
theorem dX3_hasWord_12 : decode cX3_hasWord 12 = .ok (.ifCond .ne 16, 3) := by decide +kernel
theorem dX3_hasWord_15 : decode cX3_hasWord 15 = .ok (.iload_n 1, 1) := by decide +kernel
theorem dX3_hasWord_16 : decode cX3_hasWord 16 = .ok (.aload_n 0, 1) := by decide +kernel
theorem dX3_hasWord_17 : decode cX3_hasWord 17 = .ok (.getfield 41, 3) := by decide +kernel
theorem dX3_hasWord_20 : decode cX3_hasWord 20 = .ok (.arraylength, 1) := by decide +kernel
theorem dX3_hasWord_21 : decode cX3_hasWord 21 = .ok (.if_icmp .ge 7, 3) := by decide +kernel
theorem dX3_hasWord_24 : decode cX3_hasWord 24 = .ok (.iconst 1, 1) := by decide +kernel
theorem dX3_hasWord_25 : decode cX3_hasWord 25 = .ok (.goto 4, 3) := by decide +kernel
theorem dX3_hasWord_28 : decode cX3_hasWord 28 = .ok (.iconst 0, 1) := by decide +kernel
theorem dX3_hasWord_29 : decode cX3_hasWord 29 = .ok (.ireturn, 1) := by decide +kernel
theorem dX3_wordSent_0 : decode cX3_wordSent 0 = .ok (.aload_n 0, 1) := by decide +kernel
theorem dX3_wordSent_1 : decode cX3_wordSent 1 = .ok (.iload_n 1, 1) := by decide +kernel
theorem dX3_wordSent_2 : decode cX3_wordSent 2 = .ok (.invokevirtual 89, 3) := by decide +kernel
theorem dX3_wordSent_5 : decode cX3_wordSent 5 = .ok (.ifCond .eq 12, 3) := by decide +kernel
theorem dX3_wordSent_8 : decode cX3_wordSent 8 = .ok (.aload_n 0, 1) := by decide +kernel
theorem dX3_wordSent_9 : decode cX3_wordSent 9 = .ok (.getfield 37, 3) := by decide +kernel
theorem dX3_wordSent_12 : decode cX3_wordSent 12 = .ok (.iload_n 1, 1) := by decide +kernel
theorem dX3_wordSent_13 : decode cX3_wordSent 13 = .ok (.iaload, 1) := by decide +kernel
theorem dX3_wordSent_14 : decode cX3_wordSent 14 = .ok (.goto 4, 3) := by decide +kernel
theorem dX3_wordSent_17 : decode cX3_wordSent 17 = .ok (.iconst (-1), 1) := by decide +kernel
theorem dX3_wordSent_18 : decode cX3_wordSent 18 = .ok (.ireturn, 1) := by decide +kernel
theorem dX3_wordNow_0 : decode cX3_wordNow 0 = .ok (.aload_n 0, 1) := by decide +kernel
theorem dX3_wordNow_1 : decode cX3_wordNow 1 = .ok (.iload_n 1, 1) := by decide +kernel
theorem dX3_wordNow_2 : decode cX3_wordNow 2 = .ok (.invokevirtual 89, 3) := by decide +kernel
theorem dX3_wordNow_5 : decode cX3_wordNow 5 = .ok (.ifCond .eq 12, 3) := by decide +kernel
theorem dX3_wordNow_8 : decode cX3_wordNow 8 = .ok (.aload_n 0, 1) := by decide +kernel
theorem dX3_wordNow_9 : decode cX3_wordNow 9 = .ok (.getfield 41, 3) := by decide +kernel
theorem dX3_wordNow_12 : decode cX3_wordNow 12 = .ok (.iload_n 1, 1) := by decide +kernel
theorem dX3_wordNow_13 : decode cX3_wordNow 13 = .ok (.iaload, 1) := by decide +kernel
theorem dX3_wordNow_14 : decode cX3_wordNow 14 = .ok (.goto 4, 3) := by decide +kernel
theorem dX3_wordNow_17 : decode cX3_wordNow 17 = .ok (.iconst (-1), 1) := by decide +kernel
theorem dX3_wordNow_18 : decode cX3_wordNow 18 = .ok (.ireturn, 1) := by decide +kernel
theorem dX3_change_0 : decode cX3_change 0 = .ok (.aload_n 0, 1) := by decide +kernel
theorem dX3_change_1 : decode cX3_change 1 = .ok (.iload_n 1, 1) := by decide +kernel
theorem dX3_change_2 : decode cX3_change 2 = .ok (.invokevirtual 89, 3) := by decide +kernel
theorem dX3_change_5 : decode cX3_change 5 = .ok (.ifCond .eq 10, 3) := by decide +kernel
theorem dX3_change_8 : decode cX3_change 8 = .ok (.aload_n 0, 1) := by decide +kernel
theorem dX3_change_9 : decode cX3_change 9 = .ok (.getfield 41, 3) := by decide +kernel
theorem dX3_change_12 : decode cX3_change 12 = .ok (.iload_n 1, 1) := by decide +kernel
theorem dX3_change_13 : decode cX3_change 13 = .ok (.iload_n 2, 1) := by decide +kernel
theorem dX3_change_14 : decode cX3_change 14 = .ok (.iastore, 1) := by decide +kernel
theorem dX3_change_15 : decode cX3_change 15 = .ok (.return_, 1) := by decide +kernel
theorem dX3_cableNow_0 : decode cX3_cableNow 0 = .ok (.aload_n 0, 1) := by decide +kernel
theorem dX3_cableNow_1 : decode cX3_cableNow 1 = .ok (.getfield 73, 3) := by decide +kernel
theorem dX3_cableNow_4 : decode cX3_cableNow 4 = .ok (.ifCond .ne 21, 3) := by decide +kernel
theorem dX3_cableNow_7 : decode cX3_cableNow 7 = .ok (.aload_n 0, 1) := by decide +kernel
theorem dX3_cableNow_8 : decode cX3_cableNow 8 = .ok (.getfield 79, 3) := by decide +kernel
theorem dX3_cableNow_11 : decode cX3_cableNow 11 = .ok (.iconst 0, 1) := by decide +kernel
theorem dX3_cableNow_12 : decode cX3_cableNow 12 = .ok (.aload_n 0, 1) := by decide +kernel
theorem dX3_cableNow_13 : decode cX3_cableNow 13 = .ok (.getfield 62, 3) := by decide +kernel
theorem dX3_cableNow_16 : decode cX3_cableNow 16 = .ok (.arraylength, 1) := by decide +kernel
theorem dX3_cableNow_17 : decode cX3_cableNow 17 = .ok (.iconst 1, 1) := by decide +kernel
theorem dX3_cableNow_18 : decode cX3_cableNow 18 = .ok (.isub, 1) := by decide +kernel
theorem dX3_cableNow_19 : decode cX3_cableNow 19 = .ok (.invokestatic 85, 3) := by decide +kernel
theorem dX3_cableNow_22 : decode cX3_cableNow 22 = .ok (.ifCond .eq 7, 3) := by decide +kernel
theorem dX3_cableNow_25 : decode cX3_cableNow 25 = .ok (.iconst (-1), 1) := by decide +kernel
theorem dX3_cableNow_26 : decode cX3_cableNow 26 = .ok (.goto 12, 3) := by decide +kernel
theorem dX3_cableNow_29 : decode cX3_cableNow 29 = .ok (.aload_n 0, 1) := by decide +kernel
theorem dX3_cableNow_30 : decode cX3_cableNow 30 = .ok (.getfield 62, 3) := by decide +kernel
theorem dX3_cableNow_33 : decode cX3_cableNow 33 = .ok (.aload_n 0, 1) := by decide +kernel
theorem dX3_cableNow_34 : decode cX3_cableNow 34 = .ok (.getfield 79, 3) := by decide +kernel
theorem dX3_cableNow_37 : decode cX3_cableNow 37 = .ok (.iaload, 1) := by decide +kernel
theorem dX3_cableNow_38 : decode cX3_cableNow 38 = .ok (.ireturn, 1) := by decide +kernel
theorem dX4_init_0 : decode cX4_init 0 = .ok (.aload_n 0, 1) := by decide +kernel
theorem dX4_init_1 : decode cX4_init 1 = .ok (.invokespecial 3, 3) := by decide +kernel
theorem dX4_init_4 : decode cX4_init 4 = .ok (.aload_n 0, 1) := by decide +kernel
theorem dX4_init_5 : decode cX4_init 5 = .ok (.bipush 8, 2) := by decide +kernel
theorem dX4_init_7 : decode cX4_init 7 = .ok (.anewarray 9, 3) := by decide +kernel
theorem dX4_init_10 : decode cX4_init 10 = .ok (.putfield 11, 3) := by decide +kernel
theorem dX4_init_13 : decode cX4_init 13 = .ok (.aload_n 0, 1) := by decide +kernel
theorem dX4_init_14 : decode cX4_init 14 = .ok (.bipush 12, 2) := by decide +kernel
theorem dX4_init_16 : decode cX4_init 16 = .ok (.anewarray 17, 3) := by decide +kernel
theorem dX4_init_19 : decode cX4_init 19 = .ok (.putfield 19, 3) := by decide +kernel
theorem dX4_init_22 : decode cX4_init 22 = .ok (.aload_n 0, 1) := by decide +kernel
theorem dX4_init_23 : decode cX4_init 23 = .ok (.bipush 8, 2) := by decide +kernel
theorem dX4_init_25 : decode cX4_init 25 = .ok (.newarray .int, 2) := by decide +kernel
theorem dX4_init_27 : decode cX4_init 27 = .ok (.putfield 23, 3) := by decide +kernel
theorem dX4_init_30 : decode cX4_init 30 = .ok (.aload_n 0, 1) := by decide +kernel
theorem dX4_init_31 : decode cX4_init 31 = .ok (.bipush 8, 2) := by decide +kernel
theorem dX4_init_33 : decode cX4_init 33 = .ok (.newarray .int, 2) := by decide +kernel
theorem dX4_init_35 : decode cX4_init 35 = .ok (.putfield 27, 3) := by decide +kernel
theorem dX4_init_38 : decode cX4_init 38 = .ok (.aload_n 0, 1) := by decide +kernel
theorem dX4_init_39 : decode cX4_init 39 = .ok (.iconst 0, 1) := by decide +kernel
theorem dX4_init_40 : decode cX4_init 40 = .ok (.putfield 30, 3) := by decide +kernel
theorem dX4_init_43 : decode cX4_init 43 = .ok (.aload_n 0, 1) := by decide +kernel
theorem dX4_init_44 : decode cX4_init 44 = .ok (.iconst 0, 1) := by decide +kernel
theorem dX4_init_45 : decode cX4_init 45 = .ok (.putfield 34, 3) := by decide +kernel
theorem dX4_init_48 : decode cX4_init 48 = .ok (.aload_n 0, 1) := by decide +kernel
theorem dX4_init_49 : decode cX4_init 49 = .ok (.iconst 0, 1) := by decide +kernel
theorem dX4_init_50 : decode cX4_init 50 = .ok (.putfield 37, 3) := by decide +kernel
theorem dX4_init_53 : decode cX4_init 53 = .ok (.return_, 1) := by decide +kernel
theorem dX4_addOffice_0 : decode cX4_addOffice 0 = .ok (.aload_n 0, 1) := by decide +kernel
theorem dX4_addOffice_1 : decode cX4_addOffice 1 = .ok (.getfield 30, 3) := by decide +kernel
theorem dX4_addOffice_4 : decode cX4_addOffice 4 = .ok (.aload_n 0, 1) := by decide +kernel
theorem dX4_addOffice_5 : decode cX4_addOffice 5 = .ok (.getfield 11, 3) := by decide +kernel
theorem dX4_addOffice_8 : decode cX4_addOffice 8 = .ok (.arraylength, 1) := by decide +kernel
theorem dX4_addOffice_9 : decode cX4_addOffice 9 = .ok (.if_icmp .lt 5, 3) := by decide +kernel
theorem dX4_addOffice_12 : decode cX4_addOffice 12 = .ok (.iconst (-1), 1) := by decide +kernel
theorem dX4_addOffice_13 : decode cX4_addOffice 13 = .ok (.ireturn, 1) := by decide +kernel
theorem dX4_addOffice_14 : decode cX4_addOffice 14 = .ok (.aload_n 0, 1) := by decide +kernel
theorem dX4_addOffice_15 : decode cX4_addOffice 15 = .ok (.getfield 11, 3) := by decide +kernel
theorem dX4_addOffice_18 : decode cX4_addOffice 18 = .ok (.aload_n 0, 1) := by decide +kernel
theorem dX4_addOffice_19 : decode cX4_addOffice 19 = .ok (.getfield 30, 3) := by decide +kernel
theorem dX4_addOffice_22 : decode cX4_addOffice 22 = .ok (.new 9, 3) := by decide +kernel
theorem dX4_addOffice_25 : decode cX4_addOffice 25 = .ok (.dup, 1) := by decide +kernel
theorem dX4_addOffice_26 : decode cX4_addOffice 26 = .ok (.invokespecial 40, 3) := by decide +kernel
theorem dX4_addOffice_29 : decode cX4_addOffice 29 = .ok (.aastore, 1) := by decide +kernel
theorem dX4_addOffice_30 : decode cX4_addOffice 30 = .ok (.aload_n 0, 1) := by decide +kernel
theorem dX4_addOffice_31 : decode cX4_addOffice 31 = .ok (.dup, 1) := by decide +kernel
theorem dX4_addOffice_32 : decode cX4_addOffice 32 = .ok (.getfield 30, 3) := by decide +kernel
theorem dX4_addOffice_35 : decode cX4_addOffice 35 = .ok (.iconst 1, 1) := by decide +kernel
theorem dX4_addOffice_36 : decode cX4_addOffice 36 = .ok (.iadd, 1) := by decide +kernel
theorem dX4_addOffice_37 : decode cX4_addOffice 37 = .ok (.putfield 30, 3) := by decide +kernel
theorem dX4_addOffice_40 : decode cX4_addOffice 40 = .ok (.aload_n 0, 1) := by decide +kernel
theorem dX4_addOffice_41 : decode cX4_addOffice 41 = .ok (.getfield 30, 3) := by decide +kernel
theorem dX4_addOffice_44 : decode cX4_addOffice 44 = .ok (.iconst 1, 1) := by decide +kernel
theorem dX4_addOffice_45 : decode cX4_addOffice 45 = .ok (.isub, 1) := by decide +kernel
theorem dX4_addOffice_46 : decode cX4_addOffice 46 = .ok (.ireturn, 1) := by decide +kernel
theorem dX4_officeAt_0 : decode cX4_officeAt 0 = .ok (.iload_n 1, 1) := by decide +kernel
theorem dX4_officeAt_1 : decode cX4_officeAt 1 = .ok (.iconst 0, 1) := by decide +kernel
theorem dX4_officeAt_2 : decode cX4_officeAt 2 = .ok (.aload_n 0, 1) := by decide +kernel
theorem dX4_officeAt_3 : decode cX4_officeAt 3 = .ok (.getfield 30, 3) := by decide +kernel
theorem dX4_officeAt_6 : decode cX4_officeAt 6 = .ok (.iconst 1, 1) := by decide +kernel
theorem dX4_officeAt_7 : decode cX4_officeAt 7 = .ok (.isub, 1) := by decide +kernel
theorem dX4_officeAt_8 : decode cX4_officeAt 8 = .ok (.invokestatic 41, 3) := by decide +kernel
theorem dX4_officeAt_11 : decode cX4_officeAt 11 = .ok (.ifCond .ne 12, 3) := by decide +kernel
theorem dX4_officeAt_14 : decode cX4_officeAt 14 = .ok (.iload_n 1, 1) := by decide +kernel
theorem dX4_officeAt_15 : decode cX4_officeAt 15 = .ok (.aload_n 0, 1) := by decide +kernel
theorem dX4_officeAt_16 : decode cX4_officeAt 16 = .ok (.getfield 11, 3) := by decide +kernel
theorem dX4_officeAt_19 : decode cX4_officeAt 19 = .ok (.arraylength, 1) := by decide +kernel
theorem dX4_officeAt_20 : decode cX4_officeAt 20 = .ok (.if_icmp .lt 7, 3) := by decide +kernel
theorem dX4_officeAt_23 : decode cX4_officeAt 23 = .ok (.aconst_null, 1) := by decide +kernel
theorem dX4_officeAt_24 : decode cX4_officeAt 24 = .ok (.goto 9, 3) := by decide +kernel
theorem dX4_officeAt_27 : decode cX4_officeAt 27 = .ok (.aload_n 0, 1) := by decide +kernel
theorem dX4_officeAt_28 : decode cX4_officeAt 28 = .ok (.getfield 11, 3) := by decide +kernel
theorem dX4_officeAt_31 : decode cX4_officeAt 31 = .ok (.iload_n 1, 1) := by decide +kernel
theorem dX4_officeAt_32 : decode cX4_officeAt 32 = .ok (.aaload, 1) := by decide +kernel
theorem dX4_officeAt_33 : decode cX4_officeAt 33 = .ok (.areturn, 1) := by decide +kernel
theorem dX4_addCable_0 : decode cX4_addCable 0 = .ok (.aload_n 0, 1) := by decide +kernel
theorem dX4_addCable_1 : decode cX4_addCable 1 = .ok (.getfield 34, 3) := by decide +kernel
theorem dX4_addCable_4 : decode cX4_addCable 4 = .ok (.aload_n 0, 1) := by decide +kernel
theorem dX4_addCable_5 : decode cX4_addCable 5 = .ok (.getfield 19, 3) := by decide +kernel
theorem dX4_addCable_8 : decode cX4_addCable 8 = .ok (.arraylength, 1) := by decide +kernel
theorem dX4_addCable_9 : decode cX4_addCable 9 = .ok (.if_icmp .lt 5, 3) := by decide +kernel
theorem dX4_addCable_12 : decode cX4_addCable 12 = .ok (.iconst (-1), 1) := by decide +kernel
theorem dX4_addCable_13 : decode cX4_addCable 13 = .ok (.ireturn, 1) := by decide +kernel
theorem dX4_addCable_14 : decode cX4_addCable 14 = .ok (.aload_n 0, 1) := by decide +kernel
theorem dX4_addCable_15 : decode cX4_addCable 15 = .ok (.getfield 19, 3) := by decide +kernel
theorem dX4_addCable_18 : decode cX4_addCable 18 = .ok (.aload_n 0, 1) := by decide +kernel
theorem dX4_addCable_19 : decode cX4_addCable 19 = .ok (.getfield 34, 3) := by decide +kernel
theorem dX4_addCable_22 : decode cX4_addCable 22 = .ok (.new 17, 3) := by decide +kernel
theorem dX4_addCable_25 : decode cX4_addCable 25 = .ok (.dup, 1) := by decide +kernel
theorem dX4_addCable_26 : decode cX4_addCable 26 = .ok (.iload_n 1, 1) := by decide +kernel
theorem dX4_addCable_27 : decode cX4_addCable 27 = .ok (.iload_n 2, 1) := by decide +kernel
theorem dX4_addCable_28 : decode cX4_addCable 28 = .ok (.iload_n 3, 1) := by decide +kernel
theorem dX4_addCable_29 : decode cX4_addCable 29 = .ok (.iload 4, 2) := by decide +kernel
theorem dX4_addCable_31 : decode cX4_addCable 31 = .ok (.invokespecial 45, 3) := by decide +kernel
theorem dX4_addCable_34 : decode cX4_addCable 34 = .ok (.aastore, 1) := by decide +kernel
theorem dX4_addCable_35 : decode cX4_addCable 35 = .ok (.aload_n 0, 1) := by decide +kernel
theorem dX4_addCable_36 : decode cX4_addCable 36 = .ok (.dup, 1) := by decide +kernel
theorem dX4_addCable_37 : decode cX4_addCable 37 = .ok (.getfield 34, 3) := by decide +kernel
theorem dX4_addCable_40 : decode cX4_addCable 40 = .ok (.iconst 1, 1) := by decide +kernel
theorem dX4_addCable_41 : decode cX4_addCable 41 = .ok (.iadd, 1) := by decide +kernel
theorem dX4_addCable_42 : decode cX4_addCable 42 = .ok (.putfield 34, 3) := by decide +kernel
theorem dX4_addCable_45 : decode cX4_addCable 45 = .ok (.aload_n 0, 1) := by decide +kernel
theorem dX4_addCable_46 : decode cX4_addCable 46 = .ok (.getfield 34, 3) := by decide +kernel
theorem dX4_addCable_49 : decode cX4_addCable 49 = .ok (.iconst 1, 1) := by decide +kernel
theorem dX4_addCable_50 : decode cX4_addCable 50 = .ok (.isub, 1) := by decide +kernel
theorem dX4_addCable_51 : decode cX4_addCable 51 = .ok (.ireturn, 1) := by decide +kernel
theorem dX4_cableAt_0 : decode cX4_cableAt 0 = .ok (.iload_n 1, 1) := by decide +kernel
theorem dX4_cableAt_1 : decode cX4_cableAt 1 = .ok (.iconst 0, 1) := by decide +kernel
theorem dX4_cableAt_2 : decode cX4_cableAt 2 = .ok (.aload_n 0, 1) := by decide +kernel
theorem dX4_cableAt_3 : decode cX4_cableAt 3 = .ok (.getfield 34, 3) := by decide +kernel
theorem dX4_cableAt_6 : decode cX4_cableAt 6 = .ok (.iconst 1, 1) := by decide +kernel
theorem dX4_cableAt_7 : decode cX4_cableAt 7 = .ok (.isub, 1) := by decide +kernel
theorem dX4_cableAt_8 : decode cX4_cableAt 8 = .ok (.invokestatic 41, 3) := by decide +kernel
theorem dX4_cableAt_11 : decode cX4_cableAt 11 = .ok (.ifCond .ne 12, 3) := by decide +kernel
theorem dX4_cableAt_14 : decode cX4_cableAt 14 = .ok (.iload_n 1, 1) := by decide +kernel
theorem dX4_cableAt_15 : decode cX4_cableAt 15 = .ok (.aload_n 0, 1) := by decide +kernel
theorem dX4_cableAt_16 : decode cX4_cableAt 16 = .ok (.getfield 19, 3) := by decide +kernel
theorem dX4_cableAt_19 : decode cX4_cableAt 19 = .ok (.arraylength, 1) := by decide +kernel
theorem dX4_cableAt_20 : decode cX4_cableAt 20 = .ok (.if_icmp .lt 7, 3) := by decide +kernel
theorem dX4_cableAt_23 : decode cX4_cableAt 23 = .ok (.aconst_null, 1) := by decide +kernel
theorem dX4_cableAt_24 : decode cX4_cableAt 24 = .ok (.goto 9, 3) := by decide +kernel
theorem dX4_cableAt_27 : decode cX4_cableAt 27 = .ok (.aload_n 0, 1) := by decide +kernel
theorem dX4_cableAt_28 : decode cX4_cableAt 28 = .ok (.getfield 19, 3) := by decide +kernel
theorem dX4_cableAt_31 : decode cX4_cableAt 31 = .ok (.iload_n 1, 1) := by decide +kernel
theorem dX4_cableAt_32 : decode cX4_cableAt 32 = .ok (.aaload, 1) := by decide +kernel
theorem dX4_cableAt_33 : decode cX4_cableAt 33 = .ok (.areturn, 1) := by decide +kernel
theorem dX4_startMinute_0 : decode cX4_startMinute 0 = .ok (.iconst 0, 1) := by decide +kernel
theorem dX4_startMinute_1 : decode cX4_startMinute 1 = .ok (.istore_n 1, 1) := by decide +kernel
theorem dX4_startMinute_2 : decode cX4_startMinute 2 = .ok (.iload_n 1, 1) := by decide +kernel
theorem dX4_startMinute_3 : decode cX4_startMinute 3 = .ok (.aload_n 0, 1) := by decide +kernel
theorem dX4_startMinute_4 : decode cX4_startMinute 4 = .ok (.getfield 34, 3) := by decide +kernel
theorem dX4_startMinute_7 : decode cX4_startMinute 7 = .ok (.if_icmp .ge 38, 3) := by decide +kernel
theorem dX4_startMinute_10 : decode cX4_startMinute 10 = .ok (.aload_n 0, 1) := by decide +kernel
theorem dX4_startMinute_11 : decode cX4_startMinute 11 = .ok (.iload_n 1, 1) := by decide +kernel
theorem dX4_startMinute_12 : decode cX4_startMinute 12 = .ok (.invokevirtual 48, 3) := by decide +kernel
theorem dX4_startMinute_15 : decode cX4_startMinute 15 = .ok (.astore_n 2, 1) := by decide +kernel
theorem dX4_startMinute_16 : decode cX4_startMinute 16 = .ok (.aload_n 2, 1) := by decide +kernel
theorem dX4_startMinute_17 : decode cX4_startMinute 17 = .ok (.ifnull 22, 3) := by decide +kernel
theorem dX4_startMinute_20 : decode cX4_startMinute 20 = .ok (.aload_n 2, 1) := by decide +kernel
theorem dX4_startMinute_21 : decode cX4_startMinute 21 = .ok (.aload_n 2, 1) := by decide +kernel
theorem dX4_startMinute_22 : decode cX4_startMinute 22 = .ok (.getfield 52, 3) := by decide +kernel
theorem dX4_startMinute_25 : decode cX4_startMinute 25 = .ok (.ifCond .eq 7, 3) := by decide +kernel
theorem dX4_startMinute_28 : decode cX4_startMinute 28 = .ok (.iconst 0, 1) := by decide +kernel
theorem dX4_startMinute_29 : decode cX4_startMinute 29 = .ok (.goto 7, 3) := by decide +kernel
theorem dX4_startMinute_32 : decode cX4_startMinute 32 = .ok (.aload_n 2, 1) := by decide +kernel
theorem dX4_startMinute_33 : decode cX4_startMinute 33 = .ok (.getfield 56, 3) := by decide +kernel
theorem dX4_startMinute_36 : decode cX4_startMinute 36 = .ok (.putfield 59, 3) := by decide +kernel
theorem dX4_startMinute_39 : decode cX4_startMinute 39 = .ok (.iinc 1 1, 3) := by decide +kernel
theorem dX4_startMinute_42 : decode cX4_startMinute 42 = .ok (.goto (-40), 3) := by decide +kernel
theorem dX4_startMinute_45 : decode cX4_startMinute 45 = .ok (.return_, 1) := by decide +kernel
theorem dX4_findRoute_0 : decode cX4_findRoute 0 = .ok (.aload_n 0, 1) := by decide +kernel
theorem dX4_findRoute_1 : decode cX4_findRoute 1 = .ok (.iload_n 2, 1) := by decide +kernel
theorem dX4_findRoute_2 : decode cX4_findRoute 2 = .ok (.invokevirtual 62, 3) := by decide +kernel
theorem dX4_findRoute_5 : decode cX4_findRoute 5 = .ok (.aload_n 0, 1) := by decide +kernel
theorem dX4_findRoute_6 : decode cX4_findRoute 6 = .ok (.iconst 0, 1) := by decide +kernel
theorem dX4_findRoute_7 : decode cX4_findRoute 7 = .ok (.putfield 37, 3) := by decide +kernel
theorem dX4_findRoute_10 : decode cX4_findRoute 10 = .ok (.iload_n 1, 1) := by decide +kernel
theorem dX4_findRoute_11 : decode cX4_findRoute 11 = .ok (.istore_n 3, 1) := by decide +kernel
theorem dX4_findRoute_12 : decode cX4_findRoute 12 = .ok (.iload_n 3, 1) := by decide +kernel
theorem dX4_findRoute_13 : decode cX4_findRoute 13 = .ok (.iload_n 2, 1) := by decide +kernel
theorem dX4_findRoute_14 : decode cX4_findRoute 14 = .ok (.if_icmp .eq 68, 3) := by decide +kernel
theorem dX4_findRoute_17 : decode cX4_findRoute 17 = .ok (.aload_n 0, 1) := by decide +kernel
theorem dX4_findRoute_18 : decode cX4_findRoute 18 = .ok (.getfield 37, 3) := by decide +kernel
theorem dX4_findRoute_21 : decode cX4_findRoute 21 = .ok (.aload_n 0, 1) := by decide +kernel
theorem dX4_findRoute_22 : decode cX4_findRoute 22 = .ok (.getfield 27, 3) := by decide +kernel
theorem dX4_findRoute_25 : decode cX4_findRoute 25 = .ok (.arraylength, 1) := by decide +kernel
theorem dX4_findRoute_26 : decode cX4_findRoute 26 = .ok (.if_icmp .ge 56, 3) := by decide +kernel
theorem dX4_findRoute_29 : decode cX4_findRoute 29 = .ok (.aload_n 0, 1) := by decide +kernel
theorem dX4_findRoute_30 : decode cX4_findRoute 30 = .ok (.iload_n 3, 1) := by decide +kernel
theorem dX4_findRoute_31 : decode cX4_findRoute 31 = .ok (.invokevirtual 66, 3) := by decide +kernel
theorem dX4_findRoute_34 : decode cX4_findRoute 34 = .ok (.istore 4, 2) := by decide +kernel
theorem dX4_findRoute_36 : decode cX4_findRoute 36 = .ok (.aload_n 0, 1) := by decide +kernel
theorem dX4_findRoute_37 : decode cX4_findRoute 37 = .ok (.iload 4, 2) := by decide +kernel
theorem dX4_findRoute_39 : decode cX4_findRoute 39 = .ok (.invokevirtual 48, 3) := by decide +kernel
theorem dX4_findRoute_42 : decode cX4_findRoute 42 = .ok (.astore 5, 2) := by decide +kernel
theorem dX4_findRoute_44 : decode cX4_findRoute 44 = .ok (.aload 5, 2) := by decide +kernel
theorem dX4_findRoute_46 : decode cX4_findRoute 46 = .ok (.ifnonnull 5, 3) := by decide +kernel
theorem dX4_findRoute_49 : decode cX4_findRoute 49 = .ok (.iconst 0, 1) := by decide +kernel
theorem dX4_findRoute_50 : decode cX4_findRoute 50 = .ok (.ireturn, 1) := by decide +kernel
theorem dX4_findRoute_51 : decode cX4_findRoute 51 = .ok (.aload_n 0, 1) := by decide +kernel
theorem dX4_findRoute_52 : decode cX4_findRoute 52 = .ok (.getfield 27, 3) := by decide +kernel
theorem dX4_findRoute_55 : decode cX4_findRoute 55 = .ok (.aload_n 0, 1) := by decide +kernel
theorem dX4_findRoute_56 : decode cX4_findRoute 56 = .ok (.getfield 37, 3) := by decide +kernel
theorem dX4_findRoute_59 : decode cX4_findRoute 59 = .ok (.iload 4, 2) := by decide +kernel
theorem dX4_findRoute_61 : decode cX4_findRoute 61 = .ok (.iastore, 1) := by decide +kernel
theorem dX4_findRoute_62 : decode cX4_findRoute 62 = .ok (.aload_n 0, 1) := by decide +kernel
theorem dX4_findRoute_63 : decode cX4_findRoute 63 = .ok (.dup, 1) := by decide +kernel
theorem dX4_findRoute_64 : decode cX4_findRoute 64 = .ok (.getfield 37, 3) := by decide +kernel
theorem dX4_findRoute_67 : decode cX4_findRoute 67 = .ok (.iconst 1, 1) := by decide +kernel
theorem dX4_findRoute_68 : decode cX4_findRoute 68 = .ok (.iadd, 1) := by decide +kernel
theorem dX4_findRoute_69 : decode cX4_findRoute 69 = .ok (.putfield 37, 3) := by decide +kernel
theorem dX4_findRoute_72 : decode cX4_findRoute 72 = .ok (.aload 5, 2) := by decide +kernel
theorem dX4_findRoute_74 : decode cX4_findRoute 74 = .ok (.iload_n 3, 1) := by decide +kernel
theorem dX4_findRoute_75 : decode cX4_findRoute 75 = .ok (.invokevirtual 70, 3) := by decide +kernel
theorem dX4_findRoute_78 : decode cX4_findRoute 78 = .ok (.istore_n 3, 1) := by decide +kernel
theorem dX4_findRoute_79 : decode cX4_findRoute 79 = .ok (.goto (-67), 3) := by decide +kernel
theorem dX4_findRoute_82 : decode cX4_findRoute 82 = .ok (.iload_n 3, 1) := by decide +kernel
theorem dX4_findRoute_83 : decode cX4_findRoute 83 = .ok (.iload_n 2, 1) := by decide +kernel
theorem dX4_findRoute_84 : decode cX4_findRoute 84 = .ok (.if_icmp .ne 7, 3) := by decide +kernel
theorem dX4_findRoute_87 : decode cX4_findRoute 87 = .ok (.iconst 1, 1) := by decide +kernel
theorem dX4_findRoute_88 : decode cX4_findRoute 88 = .ok (.goto 4, 3) := by decide +kernel
theorem dX4_findRoute_91 : decode cX4_findRoute 91 = .ok (.iconst 0, 1) := by decide +kernel
theorem dX4_findRoute_92 : decode cX4_findRoute 92 = .ok (.ireturn, 1) := by decide +kernel
theorem dX4_costOf_0 : decode cX4_costOf 0 = .ok (.aload_n 0, 1) := by decide +kernel
theorem dX4_costOf_1 : decode cX4_costOf 1 = .ok (.getfield 73, 3) := by decide +kernel
theorem dX4_costOf_4 : decode cX4_costOf 4 = .ok (.bipush 16, 2) := by decide +kernel
theorem dX4_costOf_6 : decode cX4_costOf 6 = .ok (.imul, 1) := by decide +kernel
theorem dX4_costOf_7 : decode cX4_costOf 7 = .ok (.iconst 1, 1) := by decide +kernel
theorem dX4_costOf_8 : decode cX4_costOf 8 = .ok (.iadd, 1) := by decide +kernel
theorem dX4_costOf_9 : decode cX4_costOf 9 = .ok (.ireturn, 1) := by decide +kernel
theorem dX4_findCosts_0 : decode cX4_findCosts 0 = .ok (.aload_n 0, 1) := by decide +kernel
theorem dX4_findCosts_1 : decode cX4_findCosts 1 = .ok (.getfield 23, 3) := by decide +kernel
theorem dX4_findCosts_4 : decode cX4_findCosts 4 = .ok (.ldc 76, 2) := by decide +kernel
theorem dX4_findCosts_6 : decode cX4_findCosts 6 = .ok (.invokestatic 77, 3) := by decide +kernel
theorem dX4_findCosts_9 : decode cX4_findCosts 9 = .ok (.aload_n 0, 1) := by decide +kernel
theorem dX4_findCosts_10 : decode cX4_findCosts 10 = .ok (.iload_n 1, 1) := by decide +kernel
theorem dX4_findCosts_11 : decode cX4_findCosts 11 = .ok (.iconst 0, 1) := by decide +kernel
theorem dX4_findCosts_12 : decode cX4_findCosts 12 = .ok (.invokevirtual 83, 3) := by decide +kernel
theorem dX4_findCosts_15 : decode cX4_findCosts 15 = .ok (.iconst 1, 1) := by decide +kernel
theorem dX4_findCosts_16 : decode cX4_findCosts 16 = .ok (.istore_n 2, 1) := by decide +kernel
theorem dX4_findCosts_17 : decode cX4_findCosts 17 = .ok (.iload_n 2, 1) := by decide +kernel
theorem dX4_findCosts_18 : decode cX4_findCosts 18 = .ok (.aload_n 0, 1) := by decide +kernel
theorem dX4_findCosts_19 : decode cX4_findCosts 19 = .ok (.getfield 30, 3) := by decide +kernel
theorem dX4_findCosts_22 : decode cX4_findCosts 22 = .ok (.if_icmp .ge 67, 3) := by decide +kernel
theorem dX4_findCosts_25 : decode cX4_findCosts 25 = .ok (.iconst 0, 1) := by decide +kernel
theorem dX4_findCosts_26 : decode cX4_findCosts 26 = .ok (.istore_n 3, 1) := by decide +kernel
theorem dX4_findCosts_27 : decode cX4_findCosts 27 = .ok (.iload_n 3, 1) := by decide +kernel
theorem dX4_findCosts_28 : decode cX4_findCosts 28 = .ok (.aload_n 0, 1) := by decide +kernel
theorem dX4_findCosts_29 : decode cX4_findCosts 29 = .ok (.getfield 34, 3) := by decide +kernel
theorem dX4_findCosts_32 : decode cX4_findCosts 32 = .ok (.if_icmp .ge 51, 3) := by decide +kernel
theorem dX4_findCosts_35 : decode cX4_findCosts 35 = .ok (.aload_n 0, 1) := by decide +kernel
theorem dX4_findCosts_36 : decode cX4_findCosts 36 = .ok (.iload_n 3, 1) := by decide +kernel
theorem dX4_findCosts_37 : decode cX4_findCosts 37 = .ok (.invokevirtual 48, 3) := by decide +kernel
theorem dX4_findCosts_40 : decode cX4_findCosts 40 = .ok (.astore 4, 2) := by decide +kernel
theorem dX4_findCosts_42 : decode cX4_findCosts 42 = .ok (.aload 4, 2) := by decide +kernel
theorem dX4_findCosts_44 : decode cX4_findCosts 44 = .ok (.ifnull 33, 3) := by decide +kernel
theorem dX4_findCosts_47 : decode cX4_findCosts 47 = .ok (.aload 4, 2) := by decide +kernel
theorem dX4_findCosts_49 : decode cX4_findCosts 49 = .ok (.getfield 52, 3) := by decide +kernel
theorem dX4_findCosts_52 : decode cX4_findCosts 52 = .ok (.ifCond .ne 25, 3) := by decide +kernel
theorem dX4_findCosts_55 : decode cX4_findCosts 55 = .ok (.aload_n 0, 1) := by decide +kernel
theorem dX4_findCosts_56 : decode cX4_findCosts 56 = .ok (.aload 4, 2) := by decide +kernel
theorem dX4_findCosts_58 : decode cX4_findCosts 58 = .ok (.getfield 87, 3) := by decide +kernel
theorem dX4_findCosts_61 : decode cX4_findCosts 61 = .ok (.aload 4, 2) := by decide +kernel
theorem dX4_findCosts_63 : decode cX4_findCosts 63 = .ok (.invokevirtual 90, 3) := by decide +kernel
theorem dX4_findCosts_66 : decode cX4_findCosts 66 = .ok (.aload_n 0, 1) := by decide +kernel
theorem dX4_findCosts_67 : decode cX4_findCosts 67 = .ok (.aload 4, 2) := by decide +kernel
theorem dX4_findCosts_69 : decode cX4_findCosts 69 = .ok (.getfield 94, 3) := by decide +kernel
theorem dX4_findCosts_72 : decode cX4_findCosts 72 = .ok (.aload 4, 2) := by decide +kernel
theorem dX4_findCosts_74 : decode cX4_findCosts 74 = .ok (.invokevirtual 90, 3) := by decide +kernel
theorem dX4_findCosts_77 : decode cX4_findCosts 77 = .ok (.iinc 3 1, 3) := by decide +kernel
theorem dX4_findCosts_80 : decode cX4_findCosts 80 = .ok (.goto (-53), 3) := by decide +kernel
theorem dX4_findCosts_83 : decode cX4_findCosts 83 = .ok (.iinc 2 1, 3) := by decide +kernel
theorem dX4_findCosts_86 : decode cX4_findCosts 86 = .ok (.goto (-69), 3) := by decide +kernel
theorem dX4_findCosts_89 : decode cX4_findCosts 89 = .ok (.return_, 1) := by decide +kernel
theorem dX4_lowerCost_0 : decode cX4_lowerCost 0 = .ok (.aload_n 0, 1) := by decide +kernel
theorem dX4_lowerCost_1 : decode cX4_lowerCost 1 = .ok (.aload_n 2, 1) := by decide +kernel
theorem dX4_lowerCost_2 : decode cX4_lowerCost 2 = .ok (.iload_n 1, 1) := by decide +kernel
theorem dX4_lowerCost_3 : decode cX4_lowerCost 3 = .ok (.invokevirtual 70, 3) := by decide +kernel
theorem dX4_lowerCost_6 : decode cX4_lowerCost 6 = .ok (.invokevirtual 97, 3) := by decide +kernel
theorem dX4_lowerCost_9 : decode cX4_lowerCost 9 = .ok (.aload_n 2, 1) := by decide +kernel
theorem dX4_lowerCost_10 : decode cX4_lowerCost 10 = .ok (.invokestatic 100, 3) := by decide +kernel
theorem dX4_lowerCost_13 : decode cX4_lowerCost 13 = .ok (.iadd, 1) := by decide +kernel
theorem dX4_lowerCost_14 : decode cX4_lowerCost 14 = .ok (.istore_n 3, 1) := by decide +kernel
theorem dX4_lowerCost_15 : decode cX4_lowerCost 15 = .ok (.iload_n 3, 1) := by decide +kernel
theorem dX4_lowerCost_16 : decode cX4_lowerCost 16 = .ok (.aload_n 0, 1) := by decide +kernel
theorem dX4_lowerCost_17 : decode cX4_lowerCost 17 = .ok (.iload_n 1, 1) := by decide +kernel
theorem dX4_lowerCost_18 : decode cX4_lowerCost 18 = .ok (.invokevirtual 97, 3) := by decide +kernel
theorem dX4_lowerCost_21 : decode cX4_lowerCost 21 = .ok (.if_icmp .ge 9, 3) := by decide +kernel
theorem dX4_lowerCost_24 : decode cX4_lowerCost 24 = .ok (.aload_n 0, 1) := by decide +kernel
theorem dX4_lowerCost_25 : decode cX4_lowerCost 25 = .ok (.iload_n 1, 1) := by decide +kernel
theorem dX4_lowerCost_26 : decode cX4_lowerCost 26 = .ok (.iload_n 3, 1) := by decide +kernel
theorem dX4_lowerCost_27 : decode cX4_lowerCost 27 = .ok (.invokevirtual 83, 3) := by decide +kernel
theorem dX4_lowerCost_30 : decode cX4_lowerCost 30 = .ok (.return_, 1) := by decide +kernel
theorem dX4_costFrom_0 : decode cX4_costFrom 0 = .ok (.iload_n 1, 1) := by decide +kernel
theorem dX4_costFrom_1 : decode cX4_costFrom 1 = .ok (.iconst 0, 1) := by decide +kernel
theorem dX4_costFrom_2 : decode cX4_costFrom 2 = .ok (.aload_n 0, 1) := by decide +kernel
theorem dX4_costFrom_3 : decode cX4_costFrom 3 = .ok (.getfield 23, 3) := by decide +kernel
theorem dX4_costFrom_6 : decode cX4_costFrom 6 = .ok (.arraylength, 1) := by decide +kernel
theorem dX4_costFrom_7 : decode cX4_costFrom 7 = .ok (.iconst 1, 1) := by decide +kernel
theorem dX4_costFrom_8 : decode cX4_costFrom 8 = .ok (.isub, 1) := by decide +kernel
theorem dX4_costFrom_9 : decode cX4_costFrom 9 = .ok (.invokestatic 41, 3) := by decide +kernel
theorem dX4_costFrom_12 : decode cX4_costFrom 12 = .ok (.ifCond .eq 8, 3) := by decide +kernel
theorem dX4_costFrom_15 : decode cX4_costFrom 15 = .ok (.ldc 76, 2) := by decide +kernel
theorem dX4_costFrom_17 : decode cX4_costFrom 17 = .ok (.goto 9, 3) := by decide +kernel
theorem dX4_costFrom_20 : decode cX4_costFrom 20 = .ok (.aload_n 0, 1) := by decide +kernel
theorem dX4_costFrom_21 : decode cX4_costFrom 21 = .ok (.getfield 23, 3) := by decide +kernel
theorem dX4_costFrom_24 : decode cX4_costFrom 24 = .ok (.iload_n 1, 1) := by decide +kernel
theorem dX4_costFrom_25 : decode cX4_costFrom 25 = .ok (.iaload, 1) := by decide +kernel
theorem dX4_costFrom_26 : decode cX4_costFrom 26 = .ok (.ireturn, 1) := by decide +kernel
theorem dX4_setCost_0 : decode cX4_setCost 0 = .ok (.iload_n 1, 1) := by decide +kernel
theorem dX4_setCost_1 : decode cX4_setCost 1 = .ok (.iconst 0, 1) := by decide +kernel
theorem dX4_setCost_2 : decode cX4_setCost 2 = .ok (.aload_n 0, 1) := by decide +kernel
theorem dX4_setCost_3 : decode cX4_setCost 3 = .ok (.getfield 23, 3) := by decide +kernel
theorem dX4_setCost_6 : decode cX4_setCost 6 = .ok (.arraylength, 1) := by decide +kernel
theorem dX4_setCost_7 : decode cX4_setCost 7 = .ok (.iconst 1, 1) := by decide +kernel
theorem dX4_setCost_8 : decode cX4_setCost 8 = .ok (.isub, 1) := by decide +kernel
theorem dX4_setCost_9 : decode cX4_setCost 9 = .ok (.invokestatic 41, 3) := by decide +kernel
theorem dX4_setCost_12 : decode cX4_setCost 12 = .ok (.ifCond .ne 10, 3) := by decide +kernel
theorem dX4_setCost_15 : decode cX4_setCost 15 = .ok (.aload_n 0, 1) := by decide +kernel
theorem dX4_setCost_16 : decode cX4_setCost 16 = .ok (.getfield 23, 3) := by decide +kernel
theorem dX4_setCost_19 : decode cX4_setCost 19 = .ok (.iload_n 1, 1) := by decide +kernel
theorem dX4_setCost_20 : decode cX4_setCost 20 = .ok (.iload_n 2, 1) := by decide +kernel
theorem dX4_setCost_21 : decode cX4_setCost 21 = .ok (.iastore, 1) := by decide +kernel
theorem dX4_setCost_22 : decode cX4_setCost 22 = .ok (.return_, 1) := by decide +kernel
theorem dX4_nextCable_0 : decode cX4_nextCable 0 = .ok (.aload_n 0, 1) := by decide +kernel
theorem dX4_nextCable_1 : decode cX4_nextCable 1 = .ok (.iload_n 1, 1) := by decide +kernel
theorem dX4_nextCable_2 : decode cX4_nextCable 2 = .ok (.invokevirtual 97, 3) := by decide +kernel
theorem dX4_nextCable_5 : decode cX4_nextCable 5 = .ok (.istore_n 2, 1) := by decide +kernel
theorem dX4_nextCable_6 : decode cX4_nextCable 6 = .ok (.iconst 0, 1) := by decide +kernel
theorem dX4_nextCable_7 : decode cX4_nextCable 7 = .ok (.istore_n 3, 1) := by decide +kernel
theorem dX4_nextCable_8 : decode cX4_nextCable 8 = .ok (.iload_n 3, 1) := by decide +kernel
theorem dX4_nextCable_9 : decode cX4_nextCable 9 = .ok (.aload_n 0, 1) := by decide +kernel
theorem dX4_nextCable_10 : decode cX4_nextCable 10 = .ok (.getfield 34, 3) := by decide +kernel
theorem dX4_nextCable_13 : decode cX4_nextCable 13 = .ok (.if_icmp .ge 66, 3) := by decide +kernel
theorem dX4_nextCable_16 : decode cX4_nextCable 16 = .ok (.iload_n 2, 1) := by decide +kernel
theorem dX4_nextCable_17 : decode cX4_nextCable 17 = .ok (.ldc 76, 2) := by decide +kernel
theorem dX4_nextCable_19 : decode cX4_nextCable 19 = .ok (.if_icmp .ge 60, 3) := by decide +kernel
theorem dX4_nextCable_22 : decode cX4_nextCable 22 = .ok (.aload_n 0, 1) := by decide +kernel
theorem dX4_nextCable_23 : decode cX4_nextCable 23 = .ok (.iload_n 3, 1) := by decide +kernel
theorem dX4_nextCable_24 : decode cX4_nextCable 24 = .ok (.invokevirtual 48, 3) := by decide +kernel
theorem dX4_nextCable_27 : decode cX4_nextCable 27 = .ok (.astore 4, 2) := by decide +kernel
theorem dX4_nextCable_29 : decode cX4_nextCable 29 = .ok (.aload 4, 2) := by decide +kernel
theorem dX4_nextCable_31 : decode cX4_nextCable 31 = .ok (.ifnull 42, 3) := by decide +kernel
theorem dX4_nextCable_34 : decode cX4_nextCable 34 = .ok (.aload 4, 2) := by decide +kernel
theorem dX4_nextCable_36 : decode cX4_nextCable 36 = .ok (.getfield 52, 3) := by decide +kernel
theorem dX4_nextCable_39 : decode cX4_nextCable 39 = .ok (.ifCond .ne 34, 3) := by decide +kernel
theorem dX4_nextCable_42 : decode cX4_nextCable 42 = .ok (.aload 4, 2) := by decide +kernel
theorem dX4_nextCable_44 : decode cX4_nextCable 44 = .ok (.iload_n 1, 1) := by decide +kernel
theorem dX4_nextCable_45 : decode cX4_nextCable 45 = .ok (.invokevirtual 104, 3) := by decide +kernel
theorem dX4_nextCable_48 : decode cX4_nextCable 48 = .ok (.ifCond .eq 25, 3) := by decide +kernel
theorem dX4_nextCable_51 : decode cX4_nextCable 51 = .ok (.aload_n 0, 1) := by decide +kernel
theorem dX4_nextCable_52 : decode cX4_nextCable 52 = .ok (.aload 4, 2) := by decide +kernel
theorem dX4_nextCable_54 : decode cX4_nextCable 54 = .ok (.iload_n 1, 1) := by decide +kernel
theorem dX4_nextCable_55 : decode cX4_nextCable 55 = .ok (.invokevirtual 70, 3) := by decide +kernel
theorem dX4_nextCable_58 : decode cX4_nextCable 58 = .ok (.invokevirtual 97, 3) := by decide +kernel
theorem dX4_nextCable_61 : decode cX4_nextCable 61 = .ok (.aload 4, 2) := by decide +kernel
theorem dX4_nextCable_63 : decode cX4_nextCable 63 = .ok (.invokestatic 100, 3) := by decide +kernel
theorem dX4_nextCable_66 : decode cX4_nextCable 66 = .ok (.iadd, 1) := by decide +kernel
theorem dX4_nextCable_67 : decode cX4_nextCable 67 = .ok (.iload_n 2, 1) := by decide +kernel
theorem dX4_nextCable_68 : decode cX4_nextCable 68 = .ok (.if_icmp .ne 5, 3) := by decide +kernel
theorem dX4_nextCable_71 : decode cX4_nextCable 71 = .ok (.iload_n 3, 1) := by decide +kernel
theorem dX4_nextCable_72 : decode cX4_nextCable 72 = .ok (.ireturn, 1) := by decide +kernel
theorem dX4_nextCable_73 : decode cX4_nextCable 73 = .ok (.iinc 3 1, 3) := by decide +kernel
theorem dX4_nextCable_76 : decode cX4_nextCable 76 = .ok (.goto (-68), 3) := by decide +kernel
theorem dX4_nextCable_79 : decode cX4_nextCable 79 = .ok (.iconst (-1), 1) := by decide +kernel
theorem dX4_nextCable_80 : decode cX4_nextCable 80 = .ok (.ireturn, 1) := by decide +kernel
theorem dX4_routeRate_0 : decode cX4_routeRate 0 = .ok (.iconst 0, 1) := by decide +kernel
theorem dX4_routeRate_1 : decode cX4_routeRate 1 = .ok (.istore_n 1, 1) := by decide +kernel
theorem dX4_routeRate_2 : decode cX4_routeRate 2 = .ok (.iconst 0, 1) := by decide +kernel
theorem dX4_routeRate_3 : decode cX4_routeRate 3 = .ok (.istore_n 2, 1) := by decide +kernel
theorem dX4_routeRate_4 : decode cX4_routeRate 4 = .ok (.iload_n 2, 1) := by decide +kernel
theorem dX4_routeRate_5 : decode cX4_routeRate 5 = .ok (.aload_n 0, 1) := by decide +kernel
theorem dX4_routeRate_6 : decode cX4_routeRate 6 = .ok (.getfield 37, 3) := by decide +kernel
theorem dX4_routeRate_9 : decode cX4_routeRate 9 = .ok (.if_icmp .ge 44, 3) := by decide +kernel
theorem dX4_routeRate_12 : decode cX4_routeRate 12 = .ok (.iload_n 2, 1) := by decide +kernel
theorem dX4_routeRate_13 : decode cX4_routeRate 13 = .ok (.aload_n 0, 1) := by decide +kernel
theorem dX4_routeRate_14 : decode cX4_routeRate 14 = .ok (.getfield 27, 3) := by decide +kernel
theorem dX4_routeRate_17 : decode cX4_routeRate 17 = .ok (.arraylength, 1) := by decide +kernel
theorem dX4_routeRate_18 : decode cX4_routeRate 18 = .ok (.if_icmp .ge 35, 3) := by decide +kernel
theorem dX4_routeRate_21 : decode cX4_routeRate 21 = .ok (.aload_n 0, 1) := by decide +kernel
theorem dX4_routeRate_22 : decode cX4_routeRate 22 = .ok (.aload_n 0, 1) := by decide +kernel
theorem dX4_routeRate_23 : decode cX4_routeRate 23 = .ok (.getfield 27, 3) := by decide +kernel
theorem dX4_routeRate_26 : decode cX4_routeRate 26 = .ok (.iload_n 2, 1) := by decide +kernel
theorem dX4_routeRate_27 : decode cX4_routeRate 27 = .ok (.iaload, 1) := by decide +kernel
theorem dX4_routeRate_28 : decode cX4_routeRate 28 = .ok (.invokevirtual 48, 3) := by decide +kernel
theorem dX4_routeRate_31 : decode cX4_routeRate 31 = .ok (.astore_n 3, 1) := by decide +kernel
theorem dX4_routeRate_32 : decode cX4_routeRate 32 = .ok (.iload_n 1, 1) := by decide +kernel
theorem dX4_routeRate_33 : decode cX4_routeRate 33 = .ok (.aload_n 3, 1) := by decide +kernel
theorem dX4_routeRate_34 : decode cX4_routeRate 34 = .ok (.ifnonnull 7, 3) := by decide +kernel
theorem dX4_routeRate_37 : decode cX4_routeRate 37 = .ok (.iconst 0, 1) := by decide +kernel
theorem dX4_routeRate_38 : decode cX4_routeRate 38 = .ok (.goto 7, 3) := by decide +kernel
theorem dX4_routeRate_41 : decode cX4_routeRate 41 = .ok (.aload_n 3, 1) := by decide +kernel
theorem dX4_routeRate_42 : decode cX4_routeRate 42 = .ok (.getfield 73, 3) := by decide +kernel
theorem dX4_routeRate_45 : decode cX4_routeRate 45 = .ok (.iadd, 1) := by decide +kernel
theorem dX4_routeRate_46 : decode cX4_routeRate 46 = .ok (.istore_n 1, 1) := by decide +kernel
theorem dX4_routeRate_47 : decode cX4_routeRate 47 = .ok (.iinc 2 1, 3) := by decide +kernel
theorem dX4_routeRate_50 : decode cX4_routeRate 50 = .ok (.goto (-46), 3) := by decide +kernel
theorem dX4_routeRate_53 : decode cX4_routeRate 53 = .ok (.iload_n 1, 1) := by decide +kernel
theorem dX4_routeRate_54 : decode cX4_routeRate 54 = .ok (.ireturn, 1) := by decide +kernel
theorem dX5_init_0 : decode cX5_init 0 = .ok (.aload_n 0, 1) := by decide +kernel
theorem dX5_init_1 : decode cX5_init 1 = .ok (.invokespecial 3, 3) := by decide +kernel
theorem dX5_init_4 : decode cX5_init 4 = .ok (.aload_n 0, 1) := by decide +kernel
theorem dX5_init_5 : decode cX5_init 5 = .ok (.bipush 13, 2) := by decide +kernel
theorem dX5_init_7 : decode cX5_init 7 = .ok (.newarray .boolean, 2) := by decide +kernel
theorem dX5_init_9 : decode cX5_init 9 = .ok (.putfield 9, 3) := by decide +kernel
theorem dX5_init_12 : decode cX5_init 12 = .ok (.aload_n 0, 1) := by decide +kernel
theorem dX5_init_13 : decode cX5_init 13 = .ok (.iconst 0, 1) := by decide +kernel
theorem dX5_init_14 : decode cX5_init 14 = .ok (.putfield 15, 3) := by decide +kernel
theorem dX5_init_17 : decode cX5_init 17 = .ok (.aload_n 0, 1) := by decide +kernel
theorem dX5_init_18 : decode cX5_init 18 = .ok (.iconst 0, 1) := by decide +kernel
theorem dX5_init_19 : decode cX5_init 19 = .ok (.putfield 19, 3) := by decide +kernel
theorem dX5_init_22 : decode cX5_init 22 = .ok (.aload_n 0, 1) := by decide +kernel
theorem dX5_init_23 : decode cX5_init 23 = .ok (.iconst 0, 1) := by decide +kernel
theorem dX5_init_24 : decode cX5_init 24 = .ok (.putfield 23, 3) := by decide +kernel
theorem dX5_init_27 : decode cX5_init 27 = .ok (.return_, 1) := by decide +kernel
theorem dX5_reserveRules_0 : decode cX5_reserveRules 0 = .ok (.iload_n 1, 1) := by decide +kernel
theorem dX5_reserveRules_1 : decode cX5_reserveRules 1 = .ok (.iconst 0, 1) := by decide +kernel
theorem dX5_reserveRules_2 : decode cX5_reserveRules 2 = .ok (.aload_n 0, 1) := by decide +kernel
theorem dX5_reserveRules_3 : decode cX5_reserveRules 3 = .ok (.getfield 9, 3) := by decide +kernel
theorem dX5_reserveRules_6 : decode cX5_reserveRules 6 = .ok (.arraylength, 1) := by decide +kernel
theorem dX5_reserveRules_7 : decode cX5_reserveRules 7 = .ok (.iconst 1, 1) := by decide +kernel
theorem dX5_reserveRules_8 : decode cX5_reserveRules 8 = .ok (.isub, 1) := by decide +kernel
theorem dX5_reserveRules_9 : decode cX5_reserveRules 9 = .ok (.invokestatic 26, 3) := by decide +kernel
theorem dX5_reserveRules_12 : decode cX5_reserveRules 12 = .ok (.ifCond .ne 10, 3) := by decide +kernel
theorem dX5_reserveRules_15 : decode cX5_reserveRules 15 = .ok (.aload_n 0, 1) := by decide +kernel
theorem dX5_reserveRules_16 : decode cX5_reserveRules 16 = .ok (.getfield 9, 3) := by decide +kernel
theorem dX5_reserveRules_19 : decode cX5_reserveRules 19 = .ok (.iload_n 1, 1) := by decide +kernel
theorem dX5_reserveRules_20 : decode cX5_reserveRules 20 = .ok (.iconst 1, 1) := by decide +kernel
theorem dX5_reserveRules_21 : decode cX5_reserveRules 21 = .ok (.bastore, 1) := by decide +kernel
theorem dX5_reserveRules_22 : decode cX5_reserveRules 22 = .ok (.return_, 1) := by decide +kernel
theorem dX5_reserves_0 : decode cX5_reserves 0 = .ok (.iload_n 1, 1) := by decide +kernel
theorem dX5_reserves_1 : decode cX5_reserves 1 = .ok (.iconst 0, 1) := by decide +kernel
theorem dX5_reserves_2 : decode cX5_reserves 2 = .ok (.aload_n 0, 1) := by decide +kernel
theorem dX5_reserves_3 : decode cX5_reserves 3 = .ok (.getfield 9, 3) := by decide +kernel
theorem dX5_reserves_6 : decode cX5_reserves 6 = .ok (.arraylength, 1) := by decide +kernel
theorem dX5_reserves_7 : decode cX5_reserves 7 = .ok (.iconst 1, 1) := by decide +kernel
theorem dX5_reserves_8 : decode cX5_reserves 8 = .ok (.isub, 1) := by decide +kernel
theorem dX5_reserves_9 : decode cX5_reserves 9 = .ok (.invokestatic 26, 3) := by decide +kernel
theorem dX5_reserves_12 : decode cX5_reserves 12 = .ok (.ifCond .ne 16, 3) := by decide +kernel
theorem dX5_reserves_15 : decode cX5_reserves 15 = .ok (.aload_n 0, 1) := by decide +kernel
theorem dX5_reserves_16 : decode cX5_reserves 16 = .ok (.getfield 9, 3) := by decide +kernel
theorem dX5_reserves_19 : decode cX5_reserves 19 = .ok (.iload_n 1, 1) := by decide +kernel
theorem dX5_reserves_20 : decode cX5_reserves 20 = .ok (.baload, 1) := by decide +kernel
theorem dX5_reserves_21 : decode cX5_reserves 21 = .ok (.ifCond .eq 7, 3) := by decide +kernel
theorem dX5_reserves_24 : decode cX5_reserves 24 = .ok (.iconst 1, 1) := by decide +kernel
theorem dX5_reserves_25 : decode cX5_reserves 25 = .ok (.goto 4, 3) := by decide +kernel
theorem dX5_reserves_28 : decode cX5_reserves 28 = .ok (.iconst 0, 1) := by decide +kernel
theorem dX5_reserves_29 : decode cX5_reserves 29 = .ok (.ireturn, 1) := by decide +kernel
theorem dX6_init_0 : decode cX6_init 0 = .ok (.aload_n 0, 1) := by decide +kernel
theorem dX6_init_1 : decode cX6_init 1 = .ok (.invokespecial 3, 3) := by decide +kernel
theorem dX6_init_4 : decode cX6_init 4 = .ok (.aload_n 0, 1) := by decide +kernel
theorem dX6_init_5 : decode cX6_init 5 = .ok (.aload_n 1, 1) := by decide +kernel
theorem dX6_init_6 : decode cX6_init 6 = .ok (.putfield 9, 3) := by decide +kernel
theorem dX6_init_9 : decode cX6_init 9 = .ok (.aload_n 0, 1) := by decide +kernel
theorem dX6_init_10 : decode cX6_init 10 = .ok (.bipush 96, 2) := by decide +kernel
theorem dX6_init_12 : decode cX6_init 12 = .ok (.newarray .int, 2) := by decide +kernel
theorem dX6_init_14 : decode cX6_init 14 = .ok (.putfield 15, 3) := by decide +kernel
theorem dX6_init_17 : decode cX6_init 17 = .ok (.aload_n 0, 1) := by decide +kernel
theorem dX6_init_18 : decode cX6_init 18 = .ok (.sipush 625, 3) := by decide +kernel
theorem dX6_init_21 : decode cX6_init 21 = .ok (.newarray .int, 2) := by decide +kernel
theorem dX6_init_23 : decode cX6_init 23 = .ok (.putfield 19, 3) := by decide +kernel
theorem dX6_init_26 : decode cX6_init 26 = .ok (.aload_n 0, 1) := by decide +kernel
theorem dX6_init_27 : decode cX6_init 27 = .ok (.bipush 24, 2) := by decide +kernel
theorem dX6_init_29 : decode cX6_init 29 = .ok (.newarray .int, 2) := by decide +kernel
theorem dX6_init_31 : decode cX6_init 31 = .ok (.putfield 22, 3) := by decide +kernel
theorem dX6_init_34 : decode cX6_init 34 = .ok (.aload_n 0, 1) := by decide +kernel
theorem dX6_init_35 : decode cX6_init 35 = .ok (.iconst 0, 1) := by decide +kernel
theorem dX6_init_36 : decode cX6_init 36 = .ok (.putfield 25, 3) := by decide +kernel
theorem dX6_init_39 : decode cX6_init 39 = .ok (.aload_n 0, 1) := by decide +kernel
theorem dX6_init_40 : decode cX6_init 40 = .ok (.iconst 0, 1) := by decide +kernel
theorem dX6_init_41 : decode cX6_init 41 = .ok (.putfield 29, 3) := by decide +kernel
theorem dX6_init_44 : decode cX6_init 44 = .ok (.aload_n 0, 1) := by decide +kernel
theorem dX6_init_45 : decode cX6_init 45 = .ok (.iconst 0, 1) := by decide +kernel
theorem dX6_init_46 : decode cX6_init 46 = .ok (.putfield 32, 3) := by decide +kernel
theorem dX6_init_49 : decode cX6_init 49 = .ok (.return_, 1) := by decide +kernel
theorem dX6_wordAt_0 : decode cX6_wordAt 0 = .ok (.iload_n 1, 1) := by decide +kernel
theorem dX6_wordAt_1 : decode cX6_wordAt 1 = .ok (.iconst 0, 1) := by decide +kernel
theorem dX6_wordAt_2 : decode cX6_wordAt 2 = .ok (.aload_n 0, 1) := by decide +kernel
theorem dX6_wordAt_3 : decode cX6_wordAt 3 = .ok (.getfield 25, 3) := by decide +kernel
theorem dX6_wordAt_6 : decode cX6_wordAt 6 = .ok (.iconst 1, 1) := by decide +kernel
theorem dX6_wordAt_7 : decode cX6_wordAt 7 = .ok (.isub, 1) := by decide +kernel
theorem dX6_wordAt_8 : decode cX6_wordAt 8 = .ok (.invokestatic 35, 3) := by decide +kernel
theorem dX6_wordAt_11 : decode cX6_wordAt 11 = .ok (.ifCond .ne 12, 3) := by decide +kernel
theorem dX6_wordAt_14 : decode cX6_wordAt 14 = .ok (.iload_n 1, 1) := by decide +kernel
theorem dX6_wordAt_15 : decode cX6_wordAt 15 = .ok (.aload_n 0, 1) := by decide +kernel
theorem dX6_wordAt_16 : decode cX6_wordAt 16 = .ok (.getfield 22, 3) := by decide +kernel
theorem dX6_wordAt_19 : decode cX6_wordAt 19 = .ok (.arraylength, 1) := by decide +kernel
theorem dX6_wordAt_20 : decode cX6_wordAt 20 = .ok (.if_icmp .lt 7, 3) := by decide +kernel
theorem dX6_wordAt_23 : decode cX6_wordAt 23 = .ok (.iconst (-1), 1) := by decide +kernel
theorem dX6_wordAt_24 : decode cX6_wordAt 24 = .ok (.goto 9, 3) := by decide +kernel
theorem dX6_wordAt_27 : decode cX6_wordAt 27 = .ok (.aload_n 0, 1) := by decide +kernel
theorem dX6_wordAt_28 : decode cX6_wordAt 28 = .ok (.getfield 22, 3) := by decide +kernel
theorem dX6_wordAt_31 : decode cX6_wordAt 31 = .ok (.iload_n 1, 1) := by decide +kernel
theorem dX6_wordAt_32 : decode cX6_wordAt 32 = .ok (.iaload, 1) := by decide +kernel
theorem dX6_wordAt_33 : decode cX6_wordAt 33 = .ok (.ireturn, 1) := by decide +kernel
theorem dX6_fill_0 : decode cX6_fill 0 = .ok (.aload_n 0, 1) := by decide +kernel
theorem dX6_fill_1 : decode cX6_fill 1 = .ok (.iconst 0, 1) := by decide +kernel
theorem dX6_fill_2 : decode cX6_fill 2 = .ok (.putfield 29, 3) := by decide +kernel
theorem dX6_fill_5 : decode cX6_fill 5 = .ok (.aload_n 0, 1) := by decide +kernel
theorem dX6_fill_6 : decode cX6_fill 6 = .ok (.aload_n 0, 1) := by decide +kernel
theorem dX6_fill_7 : decode cX6_fill 7 = .ok (.aload_n 1, 1) := by decide +kernel
theorem dX6_fill_8 : decode cX6_fill 8 = .ok (.aload_n 3, 1) := by decide +kernel
theorem dX6_fill_9 : decode cX6_fill 9 = .ok (.invokevirtual 39, 3) := by decide +kernel
theorem dX6_fill_12 : decode cX6_fill 12 = .ok (.putfield 32, 3) := by decide +kernel
theorem dX6_fill_15 : decode cX6_fill 15 = .ok (.iload 4, 2) := by decide +kernel
theorem dX6_fill_17 : decode cX6_fill 17 = .ok (.ifCond .eq 22, 3) := by decide +kernel
theorem dX6_fill_20 : decode cX6_fill 20 = .ok (.aload_n 0, 1) := by decide +kernel
theorem dX6_fill_21 : decode cX6_fill 21 = .ok (.aload_n 1, 1) := by decide +kernel
theorem dX6_fill_22 : decode cX6_fill 22 = .ok (.iload_n 2, 1) := by decide +kernel
theorem dX6_fill_23 : decode cX6_fill 23 = .ok (.aload_n 3, 1) := by decide +kernel
theorem dX6_fill_24 : decode cX6_fill 24 = .ok (.invokevirtual 43, 3) := by decide +kernel
theorem dX6_fill_27 : decode cX6_fill 27 = .ok (.aload_n 0, 1) := by decide +kernel
theorem dX6_fill_28 : decode cX6_fill 28 = .ok (.aload_n 1, 1) := by decide +kernel
theorem dX6_fill_29 : decode cX6_fill 29 = .ok (.aload_n 3, 1) := by decide +kernel
theorem dX6_fill_30 : decode cX6_fill 30 = .ok (.invokevirtual 47, 3) := by decide +kernel
theorem dX6_fill_33 : decode cX6_fill 33 = .ok (.aload_n 0, 1) := by decide +kernel
theorem dX6_fill_34 : decode cX6_fill 34 = .ok (.aload_n 1, 1) := by decide +kernel
theorem dX6_fill_35 : decode cX6_fill 35 = .ok (.aload_n 3, 1) := by decide +kernel
theorem dX6_fill_36 : decode cX6_fill 36 = .ok (.invokevirtual 51, 3) := by decide +kernel
theorem dX6_fill_39 : decode cX6_fill 39 = .ok (.aload_n 0, 1) := by decide +kernel
theorem dX6_fill_40 : decode cX6_fill 40 = .ok (.aload_n 1, 1) := by decide +kernel
theorem dX6_fill_41 : decode cX6_fill 41 = .ok (.aload_n 3, 1) := by decide +kernel
theorem dX6_fill_42 : decode cX6_fill 42 = .ok (.invokevirtual 54, 3) := by decide +kernel
theorem dX6_fill_45 : decode cX6_fill 45 = .ok (.return_, 1) := by decide +kernel
theorem dX6_plainCost_0 : decode cX6_plainCost 0 = .ok (.iconst 0, 1) := by decide +kernel
theorem dX6_plainCost_1 : decode cX6_plainCost 1 = .ok (.istore_n 3, 1) := by decide +kernel
theorem dX6_plainCost_2 : decode cX6_plainCost 2 = .ok (.iconst 0, 1) := by decide +kernel
theorem dX6_plainCost_3 : decode cX6_plainCost 3 = .ok (.istore 4, 2) := by decide +kernel
theorem dX6_plainCost_5 : decode cX6_plainCost 5 = .ok (.iload 4, 2) := by decide +kernel
theorem dX6_plainCost_7 : decode cX6_plainCost 7 = .ok (.aload_n 1, 1) := by decide +kernel
theorem dX6_plainCost_8 : decode cX6_plainCost 8 = .ok (.getfield 57, 3) := by decide +kernel
theorem dX6_plainCost_11 : decode cX6_plainCost 11 = .ok (.if_icmp .ge 32, 3) := by decide +kernel
theorem dX6_plainCost_14 : decode cX6_plainCost 14 = .ok (.iload_n 3, 1) := by decide +kernel
theorem dX6_plainCost_15 : decode cX6_plainCost 15 = .ok (.aload_n 0, 1) := by decide +kernel
theorem dX6_plainCost_16 : decode cX6_plainCost 16 = .ok (.getfield 9, 3) := by decide +kernel
theorem dX6_plainCost_19 : decode cX6_plainCost 19 = .ok (.aload_n 1, 1) := by decide +kernel
theorem dX6_plainCost_20 : decode cX6_plainCost 20 = .ok (.iload 4, 2) := by decide +kernel
theorem dX6_plainCost_22 : decode cX6_plainCost 22 = .ok (.invokevirtual 62, 3) := by decide +kernel
theorem dX6_plainCost_25 : decode cX6_plainCost 25 = .ok (.invokevirtual 66, 3) := by decide +kernel
theorem dX6_plainCost_28 : decode cX6_plainCost 28 = .ok (.aload_n 2, 1) := by decide +kernel
theorem dX6_plainCost_29 : decode cX6_plainCost 29 = .ok (.getfield 71, 3) := by decide +kernel
theorem dX6_plainCost_32 : decode cX6_plainCost 32 = .ok (.invokestatic 76, 3) := by decide +kernel
theorem dX6_plainCost_35 : decode cX6_plainCost 35 = .ok (.iadd, 1) := by decide +kernel
theorem dX6_plainCost_36 : decode cX6_plainCost 36 = .ok (.istore_n 3, 1) := by decide +kernel
theorem dX6_plainCost_37 : decode cX6_plainCost 37 = .ok (.iinc 4 1, 3) := by decide +kernel
theorem dX6_plainCost_40 : decode cX6_plainCost 40 = .ok (.goto (-35), 3) := by decide +kernel
theorem dX6_plainCost_43 : decode cX6_plainCost 43 = .ok (.iload_n 3, 1) := by decide +kernel
theorem dX6_plainCost_44 : decode cX6_plainCost 44 = .ok (.ireturn, 1) := by decide +kernel
theorem dX6_findCodes_0 : decode cX6_findCodes 0 = .ok (.aload_n 0, 1) := by decide +kernel
theorem dX6_findCodes_1 : decode cX6_findCodes 1 = .ok (.getfield 15, 3) := by decide +kernel
theorem dX6_findCodes_4 : decode cX6_findCodes 4 = .ok (.iconst (-1), 1) := by decide +kernel
theorem dX6_findCodes_5 : decode cX6_findCodes 5 = .ok (.invokestatic 80, 3) := by decide +kernel
theorem dX6_findCodes_8 : decode cX6_findCodes 8 = .ok (.iconst 0, 1) := by decide +kernel
theorem dX6_findCodes_9 : decode cX6_findCodes 9 = .ok (.istore 4, 2) := by decide +kernel
theorem dX6_findCodes_11 : decode cX6_findCodes 11 = .ok (.iload 4, 2) := by decide +kernel
theorem dX6_findCodes_13 : decode cX6_findCodes 13 = .ok (.aload_n 1, 1) := by decide +kernel
theorem dX6_findCodes_14 : decode cX6_findCodes 14 = .ok (.getfield 57, 3) := by decide +kernel
theorem dX6_findCodes_17 : decode cX6_findCodes 17 = .ok (.if_icmp .ge 113, 3) := by decide +kernel
theorem dX6_findCodes_20 : decode cX6_findCodes 20 = .ok (.iconst 1, 1) := by decide +kernel
theorem dX6_findCodes_21 : decode cX6_findCodes 21 = .ok (.istore 5, 2) := by decide +kernel
theorem dX6_findCodes_23 : decode cX6_findCodes 23 = .ok (.iload 5, 2) := by decide +kernel
theorem dX6_findCodes_25 : decode cX6_findCodes 25 = .ok (.iconst 4, 1) := by decide +kernel
theorem dX6_findCodes_26 : decode cX6_findCodes 26 = .ok (.if_icmp .gt 98, 3) := by decide +kernel
theorem dX6_findCodes_29 : decode cX6_findCodes 29 = .ok (.iload 4, 2) := by decide +kernel
theorem dX6_findCodes_31 : decode cX6_findCodes 31 = .ok (.iload 5, 2) := by decide +kernel
theorem dX6_findCodes_33 : decode cX6_findCodes 33 = .ok (.iadd, 1) := by decide +kernel
theorem dX6_findCodes_34 : decode cX6_findCodes 34 = .ok (.aload_n 1, 1) := by decide +kernel
theorem dX6_findCodes_35 : decode cX6_findCodes 35 = .ok (.getfield 57, 3) := by decide +kernel
theorem dX6_findCodes_38 : decode cX6_findCodes 38 = .ok (.if_icmp .gt 86, 3) := by decide +kernel
theorem dX6_findCodes_41 : decode cX6_findCodes 41 = .ok (.aload_n 0, 1) := by decide +kernel
theorem dX6_findCodes_42 : decode cX6_findCodes 42 = .ok (.getfield 9, 3) := by decide +kernel
theorem dX6_findCodes_45 : decode cX6_findCodes 45 = .ok (.aload_n 0, 1) := by decide +kernel
theorem dX6_findCodes_46 : decode cX6_findCodes 46 = .ok (.getfield 9, 3) := by decide +kernel
theorem dX6_findCodes_49 : decode cX6_findCodes 49 = .ok (.aload_n 0, 1) := by decide +kernel
theorem dX6_findCodes_50 : decode cX6_findCodes 50 = .ok (.getfield 9, 3) := by decide +kernel
theorem dX6_findCodes_53 : decode cX6_findCodes 53 = .ok (.aload_n 1, 1) := by decide +kernel
theorem dX6_findCodes_54 : decode cX6_findCodes 54 = .ok (.iload 4, 2) := by decide +kernel
theorem dX6_findCodes_56 : decode cX6_findCodes 56 = .ok (.iload 5, 2) := by decide +kernel
theorem dX6_findCodes_58 : decode cX6_findCodes 58 = .ok (.invokevirtual 86, 3) := by decide +kernel
theorem dX6_findCodes_61 : decode cX6_findCodes 61 = .ok (.iload_n 2, 1) := by decide +kernel
theorem dX6_findCodes_62 : decode cX6_findCodes 62 = .ok (.invokevirtual 90, 3) := by decide +kernel
theorem dX6_findCodes_65 : decode cX6_findCodes 65 = .ok (.invokevirtual 93, 3) := by decide +kernel
theorem dX6_findCodes_68 : decode cX6_findCodes 68 = .ok (.istore 6, 2) := by decide +kernel
theorem dX6_findCodes_70 : decode cX6_findCodes 70 = .ok (.iload 4, 2) := by decide +kernel
theorem dX6_findCodes_72 : decode cX6_findCodes 72 = .ok (.iconst 4, 1) := by decide +kernel
theorem dX6_findCodes_73 : decode cX6_findCodes 73 = .ok (.imul, 1) := by decide +kernel
theorem dX6_findCodes_74 : decode cX6_findCodes 74 = .ok (.iload 5, 2) := by decide +kernel
theorem dX6_findCodes_76 : decode cX6_findCodes 76 = .ok (.iadd, 1) := by decide +kernel
theorem dX6_findCodes_77 : decode cX6_findCodes 77 = .ok (.iconst 1, 1) := by decide +kernel
theorem dX6_findCodes_78 : decode cX6_findCodes 78 = .ok (.isub, 1) := by decide +kernel
theorem dX6_findCodes_79 : decode cX6_findCodes 79 = .ok (.istore 7, 2) := by decide +kernel
theorem dX6_findCodes_81 : decode cX6_findCodes 81 = .ok (.iload 6, 2) := by decide +kernel
theorem dX6_findCodes_83 : decode cX6_findCodes 83 = .ok (.iconst (-1), 1) := by decide +kernel
theorem dX6_findCodes_84 : decode cX6_findCodes 84 = .ok (.if_icmp .eq 34, 3) := by decide +kernel
theorem dX6_findCodes_87 : decode cX6_findCodes 87 = .ok (.iload 6, 2) := by decide +kernel
theorem dX6_findCodes_89 : decode cX6_findCodes 89 = .ok (.invokestatic 96, 3) := by decide +kernel
theorem dX6_findCodes_92 : decode cX6_findCodes 92 = .ok (.aload_n 3, 1) := by decide +kernel
theorem dX6_findCodes_93 : decode cX6_findCodes 93 = .ok (.getfield 99, 3) := by decide +kernel
theorem dX6_findCodes_96 : decode cX6_findCodes 96 = .ok (.if_icmp .lt 22, 3) := by decide +kernel
theorem dX6_findCodes_99 : decode cX6_findCodes 99 = .ok (.iload 7, 2) := by decide +kernel
theorem dX6_findCodes_101 : decode cX6_findCodes 101 = .ok (.aload_n 0, 1) := by decide +kernel
theorem dX6_findCodes_102 : decode cX6_findCodes 102 = .ok (.getfield 15, 3) := by decide +kernel
theorem dX6_findCodes_105 : decode cX6_findCodes 105 = .ok (.arraylength, 1) := by decide +kernel
theorem dX6_findCodes_106 : decode cX6_findCodes 106 = .ok (.if_icmp .ge 12, 3) := by decide +kernel
theorem dX6_findCodes_109 : decode cX6_findCodes 109 = .ok (.aload_n 0, 1) := by decide +kernel
theorem dX6_findCodes_110 : decode cX6_findCodes 110 = .ok (.getfield 15, 3) := by decide +kernel
theorem dX6_findCodes_113 : decode cX6_findCodes 113 = .ok (.iload 7, 2) := by decide +kernel
theorem dX6_findCodes_115 : decode cX6_findCodes 115 = .ok (.iload 6, 2) := by decide +kernel
theorem dX6_findCodes_117 : decode cX6_findCodes 117 = .ok (.iastore, 1) := by decide +kernel
theorem dX6_findCodes_118 : decode cX6_findCodes 118 = .ok (.iinc 5 1, 3) := by decide +kernel
theorem dX6_findCodes_121 : decode cX6_findCodes 121 = .ok (.goto (-98), 3) := by decide +kernel
theorem dX6_findCodes_124 : decode cX6_findCodes 124 = .ok (.iinc 4 1, 3) := by decide +kernel
theorem dX6_findCodes_127 : decode cX6_findCodes 127 = .ok (.goto (-116), 3) := by decide +kernel
theorem dX6_findCodes_130 : decode cX6_findCodes 130 = .ok (.return_, 1) := by decide +kernel
theorem dX6_codeFor_0 : decode cX6_codeFor 0 = .ok (.iload_n 1, 1) := by decide +kernel
theorem dX6_codeFor_1 : decode cX6_codeFor 1 = .ok (.iconst 4, 1) := by decide +kernel
theorem dX6_codeFor_2 : decode cX6_codeFor 2 = .ok (.imul, 1) := by decide +kernel
theorem dX6_codeFor_3 : decode cX6_codeFor 3 = .ok (.iload_n 2, 1) := by decide +kernel
theorem dX6_codeFor_4 : decode cX6_codeFor 4 = .ok (.iadd, 1) := by decide +kernel
theorem dX6_codeFor_5 : decode cX6_codeFor 5 = .ok (.iconst 1, 1) := by decide +kernel
theorem dX6_codeFor_6 : decode cX6_codeFor 6 = .ok (.isub, 1) := by decide +kernel
theorem dX6_codeFor_7 : decode cX6_codeFor 7 = .ok (.istore_n 3, 1) := by decide +kernel
theorem dX6_codeFor_8 : decode cX6_codeFor 8 = .ok (.iload_n 3, 1) := by decide +kernel
theorem dX6_codeFor_9 : decode cX6_codeFor 9 = .ok (.iconst 0, 1) := by decide +kernel
theorem dX6_codeFor_10 : decode cX6_codeFor 10 = .ok (.aload_n 0, 1) := by decide +kernel
theorem dX6_codeFor_11 : decode cX6_codeFor 11 = .ok (.getfield 15, 3) := by decide +kernel
theorem dX6_codeFor_14 : decode cX6_codeFor 14 = .ok (.arraylength, 1) := by decide +kernel
theorem dX6_codeFor_15 : decode cX6_codeFor 15 = .ok (.iconst 1, 1) := by decide +kernel
theorem dX6_codeFor_16 : decode cX6_codeFor 16 = .ok (.isub, 1) := by decide +kernel
theorem dX6_codeFor_17 : decode cX6_codeFor 17 = .ok (.invokestatic 35, 3) := by decide +kernel
theorem dX6_codeFor_20 : decode cX6_codeFor 20 = .ok (.ifCond .eq 7, 3) := by decide +kernel
theorem dX6_codeFor_23 : decode cX6_codeFor 23 = .ok (.iconst (-1), 1) := by decide +kernel
theorem dX6_codeFor_24 : decode cX6_codeFor 24 = .ok (.goto 9, 3) := by decide +kernel
theorem dX6_codeFor_27 : decode cX6_codeFor 27 = .ok (.aload_n 0, 1) := by decide +kernel
theorem dX6_codeFor_28 : decode cX6_codeFor 28 = .ok (.getfield 15, 3) := by decide +kernel
theorem dX6_codeFor_31 : decode cX6_codeFor 31 = .ok (.iload_n 3, 1) := by decide +kernel
theorem dX6_codeFor_32 : decode cX6_codeFor 32 = .ok (.iaload, 1) := by decide +kernel
theorem dX6_codeFor_33 : decode cX6_codeFor 33 = .ok (.ireturn, 1) := by decide +kernel
theorem dX6_findLeast_0 : decode cX6_findLeast 0 = .ok (.aload_n 0, 1) := by decide +kernel
theorem dX6_findLeast_1 : decode cX6_findLeast 1 = .ok (.getfield 19, 3) := by decide +kernel
theorem dX6_findLeast_4 : decode cX6_findLeast 4 = .ok (.ldc 102, 2) := by decide +kernel
theorem dX6_findLeast_6 : decode cX6_findLeast 6 = .ok (.invokestatic 80, 3) := by decide +kernel
theorem dX6_findLeast_9 : decode cX6_findLeast 9 = .ok (.aload_n 0, 1) := by decide +kernel
theorem dX6_findLeast_10 : decode cX6_findLeast 10 = .ok (.aload_n 1, 1) := by decide +kernel
theorem dX6_findLeast_11 : decode cX6_findLeast 11 = .ok (.getfield 57, 3) := by decide +kernel
theorem dX6_findLeast_14 : decode cX6_findLeast 14 = .ok (.iconst 0, 1) := by decide +kernel
theorem dX6_findLeast_15 : decode cX6_findLeast 15 = .ok (.iconst 0, 1) := by decide +kernel
theorem dX6_findLeast_16 : decode cX6_findLeast 16 = .ok (.invokevirtual 103, 3) := by decide +kernel
theorem dX6_findLeast_19 : decode cX6_findLeast 19 = .ok (.aload_n 1, 1) := by decide +kernel
theorem dX6_findLeast_20 : decode cX6_findLeast 20 = .ok (.getfield 57, 3) := by decide +kernel
theorem dX6_findLeast_23 : decode cX6_findLeast 23 = .ok (.iconst 1, 1) := by decide +kernel
theorem dX6_findLeast_24 : decode cX6_findLeast 24 = .ok (.isub, 1) := by decide +kernel
theorem dX6_findLeast_25 : decode cX6_findLeast 25 = .ok (.istore_n 3, 1) := by decide +kernel
theorem dX6_findLeast_26 : decode cX6_findLeast 26 = .ok (.iload_n 3, 1) := by decide +kernel
theorem dX6_findLeast_27 : decode cX6_findLeast 27 = .ok (.ifCond .lt 123, 3) := by decide +kernel
theorem dX6_findLeast_30 : decode cX6_findLeast 30 = .ok (.aload_n 0, 1) := by decide +kernel
theorem dX6_findLeast_31 : decode cX6_findLeast 31 = .ok (.getfield 9, 3) := by decide +kernel
theorem dX6_findLeast_34 : decode cX6_findLeast 34 = .ok (.aload_n 1, 1) := by decide +kernel
theorem dX6_findLeast_35 : decode cX6_findLeast 35 = .ok (.iload_n 3, 1) := by decide +kernel
theorem dX6_findLeast_36 : decode cX6_findLeast 36 = .ok (.invokevirtual 62, 3) := by decide +kernel
theorem dX6_findLeast_39 : decode cX6_findLeast 39 = .ok (.invokevirtual 66, 3) := by decide +kernel
theorem dX6_findLeast_42 : decode cX6_findLeast 42 = .ok (.aload_n 2, 1) := by decide +kernel
theorem dX6_findLeast_43 : decode cX6_findLeast 43 = .ok (.getfield 107, 3) := by decide +kernel
theorem dX6_findLeast_46 : decode cX6_findLeast 46 = .ok (.invokestatic 76, 3) := by decide +kernel
theorem dX6_findLeast_49 : decode cX6_findLeast 49 = .ok (.istore 4, 2) := by decide +kernel
theorem dX6_findLeast_51 : decode cX6_findLeast 51 = .ok (.iconst 0, 1) := by decide +kernel
theorem dX6_findLeast_52 : decode cX6_findLeast 52 = .ok (.istore 5, 2) := by decide +kernel
theorem dX6_findLeast_54 : decode cX6_findLeast 54 = .ok (.iload 5, 2) := by decide +kernel
theorem dX6_findLeast_56 : decode cX6_findLeast 56 = .ok (.aload_n 1, 1) := by decide +kernel
theorem dX6_findLeast_57 : decode cX6_findLeast 57 = .ok (.getfield 57, 3) := by decide +kernel
theorem dX6_findLeast_60 : decode cX6_findLeast 60 = .ok (.iload_n 3, 1) := by decide +kernel
theorem dX6_findLeast_61 : decode cX6_findLeast 61 = .ok (.isub, 1) := by decide +kernel
theorem dX6_findLeast_62 : decode cX6_findLeast 62 = .ok (.if_icmp .gt 82, 3) := by decide +kernel
theorem dX6_findLeast_65 : decode cX6_findLeast 65 = .ok (.aload_n 0, 1) := by decide +kernel
theorem dX6_findLeast_66 : decode cX6_findLeast 66 = .ok (.iload_n 3, 1) := by decide +kernel
theorem dX6_findLeast_67 : decode cX6_findLeast 67 = .ok (.iconst 1, 1) := by decide +kernel
theorem dX6_findLeast_68 : decode cX6_findLeast 68 = .ok (.iadd, 1) := by decide +kernel
theorem dX6_findLeast_69 : decode cX6_findLeast 69 = .ok (.iload 5, 2) := by decide +kernel
theorem dX6_findLeast_71 : decode cX6_findLeast 71 = .ok (.invokevirtual 110, 3) := by decide +kernel
theorem dX6_findLeast_74 : decode cX6_findLeast 74 = .ok (.iload 4, 2) := by decide +kernel
theorem dX6_findLeast_76 : decode cX6_findLeast 76 = .ok (.iadd, 1) := by decide +kernel
theorem dX6_findLeast_77 : decode cX6_findLeast 77 = .ok (.istore 6, 2) := by decide +kernel
theorem dX6_findLeast_79 : decode cX6_findLeast 79 = .ok (.iconst 1, 1) := by decide +kernel
theorem dX6_findLeast_80 : decode cX6_findLeast 80 = .ok (.istore 7, 2) := by decide +kernel
theorem dX6_findLeast_82 : decode cX6_findLeast 82 = .ok (.iload 7, 2) := by decide +kernel
theorem dX6_findLeast_84 : decode cX6_findLeast 84 = .ok (.iconst 4, 1) := by decide +kernel
theorem dX6_findLeast_85 : decode cX6_findLeast 85 = .ok (.if_icmp .gt 39, 3) := by decide +kernel
theorem dX6_findLeast_88 : decode cX6_findLeast 88 = .ok (.aload_n 0, 1) := by decide +kernel
theorem dX6_findLeast_89 : decode cX6_findLeast 89 = .ok (.iload_n 3, 1) := by decide +kernel
theorem dX6_findLeast_90 : decode cX6_findLeast 90 = .ok (.iload 7, 2) := by decide +kernel
theorem dX6_findLeast_92 : decode cX6_findLeast 92 = .ok (.invokevirtual 113, 3) := by decide +kernel
theorem dX6_findLeast_95 : decode cX6_findLeast 95 = .ok (.iconst (-1), 1) := by decide +kernel
theorem dX6_findLeast_96 : decode cX6_findLeast 96 = .ok (.if_icmp .eq 22, 3) := by decide +kernel
theorem dX6_findLeast_99 : decode cX6_findLeast 99 = .ok (.iload 6, 2) := by decide +kernel
theorem dX6_findLeast_101 : decode cX6_findLeast 101 = .ok (.aload_n 0, 1) := by decide +kernel
theorem dX6_findLeast_102 : decode cX6_findLeast 102 = .ok (.iload_n 3, 1) := by decide +kernel
theorem dX6_findLeast_103 : decode cX6_findLeast 103 = .ok (.iload 7, 2) := by decide +kernel
theorem dX6_findLeast_105 : decode cX6_findLeast 105 = .ok (.iadd, 1) := by decide +kernel
theorem dX6_findLeast_106 : decode cX6_findLeast 106 = .ok (.iload 5, 2) := by decide +kernel
theorem dX6_findLeast_108 : decode cX6_findLeast 108 = .ok (.iconst 1, 1) := by decide +kernel
theorem dX6_findLeast_109 : decode cX6_findLeast 109 = .ok (.isub, 1) := by decide +kernel
theorem dX6_findLeast_110 : decode cX6_findLeast 110 = .ok (.invokevirtual 110, 3) := by decide +kernel
theorem dX6_findLeast_113 : decode cX6_findLeast 113 = .ok (.invokestatic 116, 3) := by decide +kernel
theorem dX6_findLeast_116 : decode cX6_findLeast 116 = .ok (.istore 6, 2) := by decide +kernel
theorem dX6_findLeast_118 : decode cX6_findLeast 118 = .ok (.iinc 7 1, 3) := by decide +kernel
theorem dX6_findLeast_121 : decode cX6_findLeast 121 = .ok (.goto (-39), 3) := by decide +kernel
theorem dX6_findLeast_124 : decode cX6_findLeast 124 = .ok (.aload_n 0, 1) := by decide +kernel
theorem dX6_findLeast_125 : decode cX6_findLeast 125 = .ok (.iload_n 3, 1) := by decide +kernel
theorem dX6_findLeast_126 : decode cX6_findLeast 126 = .ok (.iload 5, 2) := by decide +kernel
theorem dX6_findLeast_128 : decode cX6_findLeast 128 = .ok (.iload 6, 2) := by decide +kernel
theorem dX6_findLeast_130 : decode cX6_findLeast 130 = .ok (.ldc 102, 2) := by decide +kernel
theorem dX6_findLeast_132 : decode cX6_findLeast 132 = .ok (.invokestatic 116, 3) := by decide +kernel
theorem dX6_findLeast_135 : decode cX6_findLeast 135 = .ok (.invokevirtual 103, 3) := by decide +kernel
theorem dX6_findLeast_138 : decode cX6_findLeast 138 = .ok (.iinc 5 1, 3) := by decide +kernel
theorem dX6_findLeast_141 : decode cX6_findLeast 141 = .ok (.goto (-87), 3) := by decide +kernel
theorem dX6_findLeast_144 : decode cX6_findLeast 144 = .ok (.iinc 3 (-1), 3) := by decide +kernel
theorem dX6_findLeast_147 : decode cX6_findLeast 147 = .ok (.goto (-121), 3) := by decide +kernel
theorem dX6_findLeast_150 : decode cX6_findLeast 150 = .ok (.return_, 1) := by decide +kernel
theorem dX6_leastFrom_0 : decode cX6_leastFrom 0 = .ok (.iload_n 1, 1) := by decide +kernel
theorem dX6_leastFrom_1 : decode cX6_leastFrom 1 = .ok (.iconst 0, 1) := by decide +kernel
theorem dX6_leastFrom_2 : decode cX6_leastFrom 2 = .ok (.bipush 24, 2) := by decide +kernel
theorem dX6_leastFrom_4 : decode cX6_leastFrom 4 = .ok (.invokestatic 35, 3) := by decide +kernel
theorem dX6_leastFrom_7 : decode cX6_leastFrom 7 = .ok (.ifCond .ne 17, 3) := by decide +kernel
theorem dX6_leastFrom_10 : decode cX6_leastFrom 10 = .ok (.iload_n 2, 1) := by decide +kernel
theorem dX6_leastFrom_11 : decode cX6_leastFrom 11 = .ok (.iconst 0, 1) := by decide +kernel
theorem dX6_leastFrom_12 : decode cX6_leastFrom 12 = .ok (.bipush 24, 2) := by decide +kernel
theorem dX6_leastFrom_14 : decode cX6_leastFrom 14 = .ok (.invokestatic 35, 3) := by decide +kernel
theorem dX6_leastFrom_17 : decode cX6_leastFrom 17 = .ok (.ifCond .ne 7, 3) := by decide +kernel
theorem dX6_leastFrom_20 : decode cX6_leastFrom 20 = .ok (.iconst 1, 1) := by decide +kernel
theorem dX6_leastFrom_21 : decode cX6_leastFrom 21 = .ok (.goto 4, 3) := by decide +kernel
theorem dX6_leastFrom_24 : decode cX6_leastFrom 24 = .ok (.iconst 0, 1) := by decide +kernel
theorem dX6_leastFrom_25 : decode cX6_leastFrom 25 = .ok (.istore_n 3, 1) := by decide +kernel
theorem dX6_leastFrom_26 : decode cX6_leastFrom 26 = .ok (.iload_n 1, 1) := by decide +kernel
theorem dX6_leastFrom_27 : decode cX6_leastFrom 27 = .ok (.bipush 25, 2) := by decide +kernel
theorem dX6_leastFrom_29 : decode cX6_leastFrom 29 = .ok (.imul, 1) := by decide +kernel
theorem dX6_leastFrom_30 : decode cX6_leastFrom 30 = .ok (.iload_n 2, 1) := by decide +kernel
theorem dX6_leastFrom_31 : decode cX6_leastFrom 31 = .ok (.iadd, 1) := by decide +kernel
theorem dX6_leastFrom_32 : decode cX6_leastFrom 32 = .ok (.istore 4, 2) := by decide +kernel
theorem dX6_leastFrom_34 : decode cX6_leastFrom 34 = .ok (.iload_n 3, 1) := by decide +kernel
theorem dX6_leastFrom_35 : decode cX6_leastFrom 35 = .ok (.ifCond .eq 23, 3) := by decide +kernel
theorem dX6_leastFrom_38 : decode cX6_leastFrom 38 = .ok (.iload 4, 2) := by decide +kernel
theorem dX6_leastFrom_40 : decode cX6_leastFrom 40 = .ok (.aload_n 0, 1) := by decide +kernel
theorem dX6_leastFrom_41 : decode cX6_leastFrom 41 = .ok (.getfield 19, 3) := by decide +kernel
theorem dX6_leastFrom_44 : decode cX6_leastFrom 44 = .ok (.arraylength, 1) := by decide +kernel
theorem dX6_leastFrom_45 : decode cX6_leastFrom 45 = .ok (.if_icmp .ge 13, 3) := by decide +kernel
theorem dX6_leastFrom_48 : decode cX6_leastFrom 48 = .ok (.aload_n 0, 1) := by decide +kernel
theorem dX6_leastFrom_49 : decode cX6_leastFrom 49 = .ok (.getfield 19, 3) := by decide +kernel
theorem dX6_leastFrom_52 : decode cX6_leastFrom 52 = .ok (.iload 4, 2) := by decide +kernel
theorem dX6_leastFrom_54 : decode cX6_leastFrom 54 = .ok (.iaload, 1) := by decide +kernel
theorem dX6_leastFrom_55 : decode cX6_leastFrom 55 = .ok (.goto 5, 3) := by decide +kernel
theorem dX6_leastFrom_58 : decode cX6_leastFrom 58 = .ok (.ldc 102, 2) := by decide +kernel
theorem dX6_leastFrom_60 : decode cX6_leastFrom 60 = .ok (.ireturn, 1) := by decide +kernel
theorem dX6_setLeast_0 : decode cX6_setLeast 0 = .ok (.iload_n 1, 1) := by decide +kernel
theorem dX6_setLeast_1 : decode cX6_setLeast 1 = .ok (.bipush 25, 2) := by decide +kernel
theorem dX6_setLeast_3 : decode cX6_setLeast 3 = .ok (.imul, 1) := by decide +kernel
theorem dX6_setLeast_4 : decode cX6_setLeast 4 = .ok (.iload_n 2, 1) := by decide +kernel
theorem dX6_setLeast_5 : decode cX6_setLeast 5 = .ok (.iadd, 1) := by decide +kernel
theorem dX6_setLeast_6 : decode cX6_setLeast 6 = .ok (.istore 4, 2) := by decide +kernel
theorem dX6_setLeast_8 : decode cX6_setLeast 8 = .ok (.iload 4, 2) := by decide +kernel
theorem dX6_setLeast_10 : decode cX6_setLeast 10 = .ok (.iconst 0, 1) := by decide +kernel
theorem dX6_setLeast_11 : decode cX6_setLeast 11 = .ok (.aload_n 0, 1) := by decide +kernel
theorem dX6_setLeast_12 : decode cX6_setLeast 12 = .ok (.getfield 19, 3) := by decide +kernel
theorem dX6_setLeast_15 : decode cX6_setLeast 15 = .ok (.arraylength, 1) := by decide +kernel
theorem dX6_setLeast_16 : decode cX6_setLeast 16 = .ok (.iconst 1, 1) := by decide +kernel
theorem dX6_setLeast_17 : decode cX6_setLeast 17 = .ok (.isub, 1) := by decide +kernel
theorem dX6_setLeast_18 : decode cX6_setLeast 18 = .ok (.invokestatic 35, 3) := by decide +kernel
theorem dX6_setLeast_21 : decode cX6_setLeast 21 = .ok (.ifCond .ne 11, 3) := by decide +kernel
theorem dX6_setLeast_24 : decode cX6_setLeast 24 = .ok (.aload_n 0, 1) := by decide +kernel
theorem dX6_setLeast_25 : decode cX6_setLeast 25 = .ok (.getfield 19, 3) := by decide +kernel
theorem dX6_setLeast_28 : decode cX6_setLeast 28 = .ok (.iload 4, 2) := by decide +kernel
theorem dX6_setLeast_30 : decode cX6_setLeast 30 = .ok (.iload_n 3, 1) := by decide +kernel
theorem dX6_setLeast_31 : decode cX6_setLeast 31 = .ok (.iastore, 1) := by decide +kernel
theorem dX6_setLeast_32 : decode cX6_setLeast 32 = .ok (.return_, 1) := by decide +kernel
theorem dX6_chooseCount_0 : decode cX6_chooseCount 0 = .ok (.iconst 1, 1) := by decide +kernel
theorem dX6_chooseCount_1 : decode cX6_chooseCount 1 = .ok (.istore_n 3, 1) := by decide +kernel
theorem dX6_chooseCount_2 : decode cX6_chooseCount 2 = .ok (.iload_n 3, 1) := by decide +kernel
theorem dX6_chooseCount_3 : decode cX6_chooseCount 3 = .ok (.aload_n 1, 1) := by decide +kernel
theorem dX6_chooseCount_4 : decode cX6_chooseCount 4 = .ok (.getfield 57, 3) := by decide +kernel
theorem dX6_chooseCount_7 : decode cX6_chooseCount 7 = .ok (.if_icmp .gt 48, 3) := by decide +kernel
theorem dX6_chooseCount_10 : decode cX6_chooseCount 10 = .ok (.aload_n 0, 1) := by decide +kernel
theorem dX6_chooseCount_11 : decode cX6_chooseCount 11 = .ok (.iconst 0, 1) := by decide +kernel
theorem dX6_chooseCount_12 : decode cX6_chooseCount 12 = .ok (.iload_n 3, 1) := by decide +kernel
theorem dX6_chooseCount_13 : decode cX6_chooseCount 13 = .ok (.invokevirtual 110, 3) := by decide +kernel
theorem dX6_chooseCount_16 : decode cX6_chooseCount 16 = .ok (.iload_n 3, 1) := by decide +kernel
theorem dX6_chooseCount_17 : decode cX6_chooseCount 17 = .ok (.iconst 5, 1) := by decide +kernel
theorem dX6_chooseCount_18 : decode cX6_chooseCount 18 = .ok (.imul, 1) := by decide +kernel
theorem dX6_chooseCount_19 : decode cX6_chooseCount 19 = .ok (.aload_n 2, 1) := by decide +kernel
theorem dX6_chooseCount_20 : decode cX6_chooseCount 20 = .ok (.getfield 107, 3) := by decide +kernel
theorem dX6_chooseCount_23 : decode cX6_chooseCount 23 = .ok (.invokestatic 76, 3) := by decide +kernel
theorem dX6_chooseCount_26 : decode cX6_chooseCount 26 = .ok (.iadd, 1) := by decide +kernel
theorem dX6_chooseCount_27 : decode cX6_chooseCount 27 = .ok (.istore 4, 2) := by decide +kernel
theorem dX6_chooseCount_29 : decode cX6_chooseCount 29 = .ok (.iload 4, 2) := by decide +kernel
theorem dX6_chooseCount_31 : decode cX6_chooseCount 31 = .ok (.aload_n 0, 1) := by decide +kernel
theorem dX6_chooseCount_32 : decode cX6_chooseCount 32 = .ok (.getfield 32, 3) := by decide +kernel
theorem dX6_chooseCount_35 : decode cX6_chooseCount 35 = .ok (.if_icmp .ge 14, 3) := by decide +kernel
theorem dX6_chooseCount_38 : decode cX6_chooseCount 38 = .ok (.aload_n 0, 1) := by decide +kernel
theorem dX6_chooseCount_39 : decode cX6_chooseCount 39 = .ok (.iload 4, 2) := by decide +kernel
theorem dX6_chooseCount_41 : decode cX6_chooseCount 41 = .ok (.putfield 32, 3) := by decide +kernel
theorem dX6_chooseCount_44 : decode cX6_chooseCount 44 = .ok (.aload_n 0, 1) := by decide +kernel
theorem dX6_chooseCount_45 : decode cX6_chooseCount 45 = .ok (.iload_n 3, 1) := by decide +kernel
theorem dX6_chooseCount_46 : decode cX6_chooseCount 46 = .ok (.putfield 29, 3) := by decide +kernel
theorem dX6_chooseCount_49 : decode cX6_chooseCount 49 = .ok (.iinc 3 1, 3) := by decide +kernel
theorem dX6_chooseCount_52 : decode cX6_chooseCount 52 = .ok (.goto (-50), 3) := by decide +kernel
theorem dX6_chooseCount_55 : decode cX6_chooseCount 55 = .ok (.return_, 1) := by decide +kernel
theorem dX6_cut_0 : decode cX6_cut 0 = .ok (.aload_n 0, 1) := by decide +kernel
theorem dX6_cut_1 : decode cX6_cut 1 = .ok (.iconst 0, 1) := by decide +kernel
theorem dX6_cut_2 : decode cX6_cut 2 = .ok (.putfield 25, 3) := by decide +kernel
theorem dX6_cut_5 : decode cX6_cut 5 = .ok (.aload_n 0, 1) := by decide +kernel
theorem dX6_cut_6 : decode cX6_cut 6 = .ok (.getfield 29, 3) := by decide +kernel
theorem dX6_cut_9 : decode cX6_cut 9 = .ok (.istore_n 3, 1) := by decide +kernel
theorem dX6_cut_10 : decode cX6_cut 10 = .ok (.iconst 0, 1) := by decide +kernel
theorem dX6_cut_11 : decode cX6_cut 11 = .ok (.istore 4, 2) := by decide +kernel
theorem dX6_cut_13 : decode cX6_cut 13 = .ok (.iload 4, 2) := by decide +kernel
theorem dX6_cut_15 : decode cX6_cut 15 = .ok (.aload_n 1, 1) := by decide +kernel
theorem dX6_cut_16 : decode cX6_cut 16 = .ok (.getfield 57, 3) := by decide +kernel
theorem dX6_cut_19 : decode cX6_cut 19 = .ok (.if_icmp .ge 69, 3) := by decide +kernel
theorem dX6_cut_22 : decode cX6_cut 22 = .ok (.iload_n 3, 1) := by decide +kernel
theorem dX6_cut_23 : decode cX6_cut 23 = .ok (.ifCond .le 13, 3) := by decide +kernel
theorem dX6_cut_26 : decode cX6_cut 26 = .ok (.aload_n 0, 1) := by decide +kernel
theorem dX6_cut_27 : decode cX6_cut 27 = .ok (.iload 4, 2) := by decide +kernel
theorem dX6_cut_29 : decode cX6_cut 29 = .ok (.iload_n 3, 1) := by decide +kernel
theorem dX6_cut_30 : decode cX6_cut 30 = .ok (.invokevirtual 121, 3) := by decide +kernel
theorem dX6_cut_33 : decode cX6_cut 33 = .ok (.goto 4, 3) := by decide +kernel
theorem dX6_cut_36 : decode cX6_cut 36 = .ok (.iconst 0, 1) := by decide +kernel
theorem dX6_cut_37 : decode cX6_cut 37 = .ok (.istore 5, 2) := by decide +kernel
theorem dX6_cut_39 : decode cX6_cut 39 = .ok (.iload 5, 2) := by decide +kernel
theorem dX6_cut_41 : decode cX6_cut 41 = .ok (.ifCond .le 28, 3) := by decide +kernel
theorem dX6_cut_44 : decode cX6_cut 44 = .ok (.aload_n 0, 1) := by decide +kernel
theorem dX6_cut_45 : decode cX6_cut 45 = .ok (.aload_n 0, 1) := by decide +kernel
theorem dX6_cut_46 : decode cX6_cut 46 = .ok (.iload 4, 2) := by decide +kernel
theorem dX6_cut_48 : decode cX6_cut 48 = .ok (.iload 5, 2) := by decide +kernel
theorem dX6_cut_50 : decode cX6_cut 50 = .ok (.invokevirtual 113, 3) := by decide +kernel
theorem dX6_cut_53 : decode cX6_cut 53 = .ok (.invokevirtual 124, 3) := by decide +kernel
theorem dX6_cut_56 : decode cX6_cut 56 = .ok (.iload 4, 2) := by decide +kernel
theorem dX6_cut_58 : decode cX6_cut 58 = .ok (.iload 5, 2) := by decide +kernel
theorem dX6_cut_60 : decode cX6_cut 60 = .ok (.iadd, 1) := by decide +kernel
theorem dX6_cut_61 : decode cX6_cut 61 = .ok (.istore 4, 2) := by decide +kernel
theorem dX6_cut_63 : decode cX6_cut 63 = .ok (.iinc 3 (-1), 3) := by decide +kernel
theorem dX6_cut_66 : decode cX6_cut 66 = .ok (.goto 19, 3) := by decide +kernel
theorem dX6_cut_69 : decode cX6_cut 69 = .ok (.aload_n 0, 1) := by decide +kernel
theorem dX6_cut_70 : decode cX6_cut 70 = .ok (.aload_n 1, 1) := by decide +kernel
theorem dX6_cut_71 : decode cX6_cut 71 = .ok (.iload 4, 2) := by decide +kernel
theorem dX6_cut_73 : decode cX6_cut 73 = .ok (.invokevirtual 62, 3) := by decide +kernel
theorem dX6_cut_76 : decode cX6_cut 76 = .ok (.invokestatic 128, 3) := by decide +kernel
theorem dX6_cut_79 : decode cX6_cut 79 = .ok (.invokevirtual 124, 3) := by decide +kernel
theorem dX6_cut_82 : decode cX6_cut 82 = .ok (.iinc 4 1, 3) := by decide +kernel
theorem dX6_cut_85 : decode cX6_cut 85 = .ok (.goto (-72), 3) := by decide +kernel
theorem dX6_cut_88 : decode cX6_cut 88 = .ok (.return_, 1) := by decide +kernel
theorem dX6_longestCode_0 : decode cX6_longestCode 0 = .ok (.iconst 4, 1) := by decide +kernel
theorem dX6_longestCode_1 : decode cX6_longestCode 1 = .ok (.istore_n 3, 1) := by decide +kernel
theorem dX6_longestCode_2 : decode cX6_longestCode 2 = .ok (.iload_n 3, 1) := by decide +kernel
theorem dX6_longestCode_3 : decode cX6_longestCode 3 = .ok (.ifCond .le 40, 3) := by decide +kernel
theorem dX6_longestCode_6 : decode cX6_longestCode 6 = .ok (.aload_n 0, 1) := by decide +kernel
theorem dX6_longestCode_7 : decode cX6_longestCode 7 = .ok (.iload_n 1, 1) := by decide +kernel
theorem dX6_longestCode_8 : decode cX6_longestCode 8 = .ok (.iload_n 3, 1) := by decide +kernel
theorem dX6_longestCode_9 : decode cX6_longestCode 9 = .ok (.invokevirtual 113, 3) := by decide +kernel
theorem dX6_longestCode_12 : decode cX6_longestCode 12 = .ok (.iconst (-1), 1) := by decide +kernel
theorem dX6_longestCode_13 : decode cX6_longestCode 13 = .ok (.if_icmp .eq 24, 3) := by decide +kernel
theorem dX6_longestCode_16 : decode cX6_longestCode 16 = .ok (.aload_n 0, 1) := by decide +kernel
theorem dX6_longestCode_17 : decode cX6_longestCode 17 = .ok (.iload_n 1, 1) := by decide +kernel
theorem dX6_longestCode_18 : decode cX6_longestCode 18 = .ok (.iload_n 3, 1) := by decide +kernel
theorem dX6_longestCode_19 : decode cX6_longestCode 19 = .ok (.iadd, 1) := by decide +kernel
theorem dX6_longestCode_20 : decode cX6_longestCode 20 = .ok (.iload_n 2, 1) := by decide +kernel
theorem dX6_longestCode_21 : decode cX6_longestCode 21 = .ok (.iconst 1, 1) := by decide +kernel
theorem dX6_longestCode_22 : decode cX6_longestCode 22 = .ok (.isub, 1) := by decide +kernel
theorem dX6_longestCode_23 : decode cX6_longestCode 23 = .ok (.invokevirtual 110, 3) := by decide +kernel
theorem dX6_longestCode_26 : decode cX6_longestCode 26 = .ok (.aload_n 0, 1) := by decide +kernel
theorem dX6_longestCode_27 : decode cX6_longestCode 27 = .ok (.iload_n 1, 1) := by decide +kernel
theorem dX6_longestCode_28 : decode cX6_longestCode 28 = .ok (.iload_n 2, 1) := by decide +kernel
theorem dX6_longestCode_29 : decode cX6_longestCode 29 = .ok (.invokevirtual 110, 3) := by decide +kernel
theorem dX6_longestCode_32 : decode cX6_longestCode 32 = .ok (.if_icmp .ne 5, 3) := by decide +kernel
theorem dX6_longestCode_35 : decode cX6_longestCode 35 = .ok (.iload_n 3, 1) := by decide +kernel
theorem dX6_longestCode_36 : decode cX6_longestCode 36 = .ok (.ireturn, 1) := by decide +kernel
theorem dX6_longestCode_37 : decode cX6_longestCode 37 = .ok (.iinc 3 (-1), 3) := by decide +kernel
theorem dX6_longestCode_40 : decode cX6_longestCode 40 = .ok (.goto (-38), 3) := by decide +kernel
theorem dX6_longestCode_43 : decode cX6_longestCode 43 = .ok (.iconst 0, 1) := by decide +kernel
theorem dX6_longestCode_44 : decode cX6_longestCode 44 = .ok (.ireturn, 1) := by decide +kernel
theorem dX6_addWord_0 : decode cX6_addWord 0 = .ok (.aload_n 0, 1) := by decide +kernel
theorem dX6_addWord_1 : decode cX6_addWord 1 = .ok (.getfield 25, 3) := by decide +kernel
theorem dX6_addWord_4 : decode cX6_addWord 4 = .ok (.aload_n 0, 1) := by decide +kernel
theorem dX6_addWord_5 : decode cX6_addWord 5 = .ok (.getfield 22, 3) := by decide +kernel
theorem dX6_addWord_8 : decode cX6_addWord 8 = .ok (.arraylength, 1) := by decide +kernel
theorem dX6_addWord_9 : decode cX6_addWord 9 = .ok (.if_icmp .ge 23, 3) := by decide +kernel
theorem dX6_addWord_12 : decode cX6_addWord 12 = .ok (.aload_n 0, 1) := by decide +kernel
theorem dX6_addWord_13 : decode cX6_addWord 13 = .ok (.getfield 22, 3) := by decide +kernel
theorem dX6_addWord_16 : decode cX6_addWord 16 = .ok (.aload_n 0, 1) := by decide +kernel
theorem dX6_addWord_17 : decode cX6_addWord 17 = .ok (.getfield 25, 3) := by decide +kernel
theorem dX6_addWord_20 : decode cX6_addWord 20 = .ok (.iload_n 1, 1) := by decide +kernel
theorem dX6_addWord_21 : decode cX6_addWord 21 = .ok (.iastore, 1) := by decide +kernel
theorem dX6_addWord_22 : decode cX6_addWord 22 = .ok (.aload_n 0, 1) := by decide +kernel
theorem dX6_addWord_23 : decode cX6_addWord 23 = .ok (.dup, 1) := by decide +kernel
theorem dX6_addWord_24 : decode cX6_addWord 24 = .ok (.getfield 25, 3) := by decide +kernel
theorem dX6_addWord_27 : decode cX6_addWord 27 = .ok (.iconst 1, 1) := by decide +kernel
theorem dX6_addWord_28 : decode cX6_addWord 28 = .ok (.iadd, 1) := by decide +kernel
theorem dX6_addWord_29 : decode cX6_addWord 29 = .ok (.putfield 25, 3) := by decide +kernel
theorem dX6_addWord_32 : decode cX6_addWord 32 = .ok (.return_, 1) := by decide +kernel
theorem dX7_init_0 : decode cX7_init 0 = .ok (.aload_n 0, 1) := by decide +kernel
theorem dX7_init_1 : decode cX7_init 1 = .ok (.invokespecial 1, 3) := by decide +kernel
theorem dX7_init_4 : decode cX7_init 4 = .ok (.aload_n 0, 1) := by decide +kernel
theorem dX7_init_5 : decode cX7_init 5 = .ok (.iload_n 1, 1) := by decide +kernel
theorem dX7_init_6 : decode cX7_init 6 = .ok (.putfield 7, 3) := by decide +kernel
theorem dX7_init_9 : decode cX7_init 9 = .ok (.aload_n 0, 1) := by decide +kernel
theorem dX7_init_10 : decode cX7_init 10 = .ok (.iload_n 2, 1) := by decide +kernel
theorem dX7_init_11 : decode cX7_init 11 = .ok (.putfield 13, 3) := by decide +kernel
theorem dX7_init_14 : decode cX7_init 14 = .ok (.aload_n 0, 1) := by decide +kernel
theorem dX7_init_15 : decode cX7_init 15 = .ok (.iload_n 3, 1) := by decide +kernel
theorem dX7_init_16 : decode cX7_init 16 = .ok (.putfield 16, 3) := by decide +kernel
theorem dX7_init_19 : decode cX7_init 19 = .ok (.aload_n 0, 1) := by decide +kernel
theorem dX7_init_20 : decode cX7_init 20 = .ok (.iload 4, 2) := by decide +kernel
theorem dX7_init_22 : decode cX7_init 22 = .ok (.putfield 19, 3) := by decide +kernel
theorem dX7_init_25 : decode cX7_init 25 = .ok (.aload_n 0, 1) := by decide +kernel
theorem dX7_init_26 : decode cX7_init 26 = .ok (.iload 5, 2) := by decide +kernel
theorem dX7_init_28 : decode cX7_init 28 = .ok (.putfield 22, 3) := by decide +kernel
theorem dX7_init_31 : decode cX7_init 31 = .ok (.return_, 1) := by decide +kernel
end
section
theorem dX8_init_0 : decode cX8_init 0 = .ok (.aload_n 0, 1) := by decide +kernel
theorem dX8_init_1 : decode cX8_init 1 = .ok (.invokespecial 1, 3) := by decide +kernel
theorem dX8_init_4 : decode cX8_init 4 = .ok (.aload_n 0, 1) := by decide +kernel
theorem dX8_init_5 : decode cX8_init 5 = .ok (.new 7, 3) := by decide +kernel
theorem dX8_init_8 : decode cX8_init 8 = .ok (.dup, 1) := by decide +kernel
theorem dX8_init_9 : decode cX8_init 9 = .ok (.invokespecial 9, 3) := by decide +kernel
theorem dX8_init_12 : decode cX8_init 12 = .ok (.putfield 10, 3) := by decide +kernel
theorem dX8_init_15 : decode cX8_init 15 = .ok (.aload_n 0, 1) := by decide +kernel
theorem dX8_init_16 : decode cX8_init 16 = .ok (.new 16, 3) := by decide +kernel
theorem dX8_init_19 : decode cX8_init 19 = .ok (.dup, 1) := by decide +kernel
theorem dX8_init_20 : decode cX8_init 20 = .ok (.aload_n 0, 1) := by decide +kernel
theorem dX8_init_21 : decode cX8_init 21 = .ok (.getfield 10, 3) := by decide +kernel
theorem dX8_init_24 : decode cX8_init 24 = .ok (.invokespecial 18, 3) := by decide +kernel
theorem dX8_init_27 : decode cX8_init 27 = .ok (.putfield 21, 3) := by decide +kernel
theorem dX8_init_30 : decode cX8_init 30 = .ok (.aload_n 0, 1) := by decide +kernel
theorem dX8_init_31 : decode cX8_init 31 = .ok (.new 25, 3) := by decide +kernel
theorem dX8_init_34 : decode cX8_init 34 = .ok (.dup, 1) := by decide +kernel
theorem dX8_init_35 : decode cX8_init 35 = .ok (.invokespecial 27, 3) := by decide +kernel
theorem dX8_init_38 : decode cX8_init 38 = .ok (.putfield 28, 3) := by decide +kernel
theorem dX8_init_41 : decode cX8_init 41 = .ok (.aload_n 0, 1) := by decide +kernel
theorem dX8_init_42 : decode cX8_init 42 = .ok (.new 32, 3) := by decide +kernel
theorem dX8_init_45 : decode cX8_init 45 = .ok (.dup, 1) := by decide +kernel
theorem dX8_init_46 : decode cX8_init 46 = .ok (.invokespecial 34, 3) := by decide +kernel
theorem dX8_init_49 : decode cX8_init 49 = .ok (.putfield 35, 3) := by decide +kernel
theorem dX8_init_52 : decode cX8_init 52 = .ok (.aload_n 0, 1) := by decide +kernel
theorem dX8_init_53 : decode cX8_init 53 = .ok (.new 39, 3) := by decide +kernel
theorem dX8_init_56 : decode cX8_init 56 = .ok (.dup, 1) := by decide +kernel
theorem dX8_init_57 : decode cX8_init 57 = .ok (.iconst 0, 1) := by decide +kernel
theorem dX8_init_58 : decode cX8_init 58 = .ok (.iconst 0, 1) := by decide +kernel
theorem dX8_init_59 : decode cX8_init 59 = .ok (.bipush 15, 2) := by decide +kernel
theorem dX8_init_61 : decode cX8_init 61 = .ok (.bipush 10, 2) := by decide +kernel
theorem dX8_init_63 : decode cX8_init 63 = .ok (.iconst 0, 1) := by decide +kernel
theorem dX8_init_64 : decode cX8_init 64 = .ok (.invokespecial 41, 3) := by decide +kernel
theorem dX8_init_67 : decode cX8_init 67 = .ok (.putfield 44, 3) := by decide +kernel
theorem dX8_init_70 : decode cX8_init 70 = .ok (.aload_n 0, 1) := by decide +kernel
theorem dX8_init_71 : decode cX8_init 71 = .ok (.bipush 12, 2) := by decide +kernel
theorem dX8_init_73 : decode cX8_init 73 = .ok (.anewarray 39, 3) := by decide +kernel
theorem dX8_init_76 : decode cX8_init 76 = .ok (.putfield 48, 3) := by decide +kernel
theorem dX8_init_79 : decode cX8_init 79 = .ok (.aload_n 0, 1) := by decide +kernel
theorem dX8_init_80 : decode cX8_init 80 = .ok (.bipush 60, 2) := by decide +kernel
theorem dX8_init_82 : decode cX8_init 82 = .ok (.anewarray 52, 3) := by decide +kernel
theorem dX8_init_85 : decode cX8_init 85 = .ok (.putfield 54, 3) := by decide +kernel
theorem dX8_init_88 : decode cX8_init 88 = .ok (.aload_n 0, 1) := by decide +kernel
theorem dX8_init_89 : decode cX8_init 89 = .ok (.iconst 0, 1) := by decide +kernel
theorem dX8_init_90 : decode cX8_init 90 = .ok (.putfield 58, 3) := by decide +kernel
theorem dX8_init_93 : decode cX8_init 93 = .ok (.aload_n 0, 1) := by decide +kernel
theorem dX8_init_94 : decode cX8_init 94 = .ok (.iconst 0, 1) := by decide +kernel
theorem dX8_init_95 : decode cX8_init 95 = .ok (.putfield 62, 3) := by decide +kernel
theorem dX8_init_98 : decode cX8_init 98 = .ok (.aload_n 0, 1) := by decide +kernel
theorem dX8_init_99 : decode cX8_init 99 = .ok (.iconst 0, 1) := by decide +kernel
theorem dX8_init_100 : decode cX8_init 100 = .ok (.putfield 65, 3) := by decide +kernel
theorem dX8_init_103 : decode cX8_init 103 = .ok (.return_, 1) := by decide +kernel
theorem dX8_idea_0 : decode cX8_idea 0 = .ok (.iload_n 1, 1) := by decide +kernel
theorem dX8_idea_1 : decode cX8_idea 1 = .ok (.iconst 1, 1) := by decide +kernel
theorem dX8_idea_2 : decode cX8_idea 2 = .ok (.bipush 20, 2) := by decide +kernel
theorem dX8_idea_4 : decode cX8_idea 4 = .ok (.invokestatic 68, 3) := by decide +kernel
theorem dX8_idea_7 : decode cX8_idea 7 = .ok (.ifCond .eq 13, 3) := by decide +kernel
theorem dX8_idea_10 : decode cX8_idea 10 = .ok (.new 72, 3) := by decide +kernel
theorem dX8_idea_13 : decode cX8_idea 13 = .ok (.dup, 1) := by decide +kernel
theorem dX8_idea_14 : decode cX8_idea 14 = .ok (.ldc 74, 2) := by decide +kernel
theorem dX8_idea_16 : decode cX8_idea 16 = .ok (.invokespecial 76, 3) := by decide +kernel
theorem dX8_idea_19 : decode cX8_idea 19 = .ok (.athrow, 1) := by decide +kernel
theorem dX8_idea_20 : decode cX8_idea 20 = .ok (.aload_n 0, 1) := by decide +kernel
theorem dX8_idea_21 : decode cX8_idea 21 = .ok (.getfield 10, 3) := by decide +kernel
theorem dX8_idea_24 : decode cX8_idea 24 = .ok (.iload_n 1, 1) := by decide +kernel
theorem dX8_idea_25 : decode cX8_idea 25 = .ok (.invokevirtual 79, 3) := by decide +kernel
theorem dX8_idea_28 : decode cX8_idea 28 = .ok (.istore_n 2, 1) := by decide +kernel
theorem dX8_idea_29 : decode cX8_idea 29 = .ok (.iload_n 2, 1) := by decide +kernel
theorem dX8_idea_30 : decode cX8_idea 30 = .ok (.iconst (-1), 1) := by decide +kernel
theorem dX8_idea_31 : decode cX8_idea 31 = .ok (.if_icmp .ne 13, 3) := by decide +kernel
theorem dX8_idea_34 : decode cX8_idea 34 = .ok (.new 83, 3) := by decide +kernel
theorem dX8_idea_37 : decode cX8_idea 37 = .ok (.dup, 1) := by decide +kernel
theorem dX8_idea_38 : decode cX8_idea 38 = .ok (.ldc 85, 2) := by decide +kernel
theorem dX8_idea_40 : decode cX8_idea 40 = .ok (.invokespecial 87, 3) := by decide +kernel
theorem dX8_idea_43 : decode cX8_idea 43 = .ok (.athrow, 1) := by decide +kernel
theorem dX8_idea_44 : decode cX8_idea 44 = .ok (.iload_n 2, 1) := by decide +kernel
theorem dX8_idea_45 : decode cX8_idea 45 = .ok (.ireturn, 1) := by decide +kernel
theorem dX8_entry_0 : decode cX8_entry 0 = .ok (.aload_n 0, 1) := by decide +kernel
theorem dX8_entry_1 : decode cX8_entry 1 = .ok (.getfield 10, 3) := by decide +kernel
theorem dX8_entry_4 : decode cX8_entry 4 = .ok (.iload_n 2, 1) := by decide +kernel
theorem dX8_entry_5 : decode cX8_entry 5 = .ok (.invokevirtual 88, 3) := by decide +kernel
theorem dX8_entry_8 : decode cX8_entry 8 = .ok (.ifCond .eq 38, 3) := by decide +kernel
theorem dX8_entry_11 : decode cX8_entry 11 = .ok (.aload_n 0, 1) := by decide +kernel
theorem dX8_entry_12 : decode cX8_entry 12 = .ok (.getfield 10, 3) := by decide +kernel
theorem dX8_entry_15 : decode cX8_entry 15 = .ok (.iload_n 3, 1) := by decide +kernel
theorem dX8_entry_16 : decode cX8_entry 16 = .ok (.invokevirtual 92, 3) := by decide +kernel
theorem dX8_entry_19 : decode cX8_entry 19 = .ok (.ifCond .eq 27, 3) := by decide +kernel
theorem dX8_entry_22 : decode cX8_entry 22 = .ok (.aload_n 0, 1) := by decide +kernel
theorem dX8_entry_23 : decode cX8_entry 23 = .ok (.getfield 10, 3) := by decide +kernel
theorem dX8_entry_26 : decode cX8_entry 26 = .ok (.iload 4, 2) := by decide +kernel
theorem dX8_entry_28 : decode cX8_entry 28 = .ok (.invokevirtual 92, 3) := by decide +kernel
theorem dX8_entry_31 : decode cX8_entry 31 = .ok (.ifCond .eq 15, 3) := by decide +kernel
theorem dX8_entry_34 : decode cX8_entry 34 = .ok (.aload_n 0, 1) := by decide +kernel
theorem dX8_entry_35 : decode cX8_entry 35 = .ok (.getfield 10, 3) := by decide +kernel
theorem dX8_entry_38 : decode cX8_entry 38 = .ok (.iload 5, 2) := by decide +kernel
theorem dX8_entry_40 : decode cX8_entry 40 = .ok (.invokevirtual 92, 3) := by decide +kernel
theorem dX8_entry_43 : decode cX8_entry 43 = .ok (.ifCond .ne 13, 3) := by decide +kernel
theorem dX8_entry_46 : decode cX8_entry 46 = .ok (.new 95, 3) := by decide +kernel
theorem dX8_entry_49 : decode cX8_entry 49 = .ok (.dup, 1) := by decide +kernel
theorem dX8_entry_50 : decode cX8_entry 50 = .ok (.ldc 97, 2) := by decide +kernel
theorem dX8_entry_52 : decode cX8_entry 52 = .ok (.invokespecial 99, 3) := by decide +kernel
theorem dX8_entry_55 : decode cX8_entry 55 = .ok (.athrow, 1) := by decide +kernel
theorem dX8_entry_56 : decode cX8_entry 56 = .ok (.iload_n 1, 1) := by decide +kernel
theorem dX8_entry_57 : decode cX8_entry 57 = .ok (.iconst 0, 1) := by decide +kernel
theorem dX8_entry_58 : decode cX8_entry 58 = .ok (.ldc 100, 2) := by decide +kernel
theorem dX8_entry_60 : decode cX8_entry 60 = .ok (.invokestatic 68, 3) := by decide +kernel
theorem dX8_entry_63 : decode cX8_entry 63 = .ok (.ifCond .eq 13, 3) := by decide +kernel
theorem dX8_entry_66 : decode cX8_entry 66 = .ok (.new 72, 3) := by decide +kernel
theorem dX8_entry_69 : decode cX8_entry 69 = .ok (.dup, 1) := by decide +kernel
theorem dX8_entry_70 : decode cX8_entry 70 = .ok (.ldc 101, 2) := by decide +kernel
theorem dX8_entry_72 : decode cX8_entry 72 = .ok (.invokespecial 76, 3) := by decide +kernel
theorem dX8_entry_75 : decode cX8_entry 75 = .ok (.athrow, 1) := by decide +kernel
theorem dX8_entry_76 : decode cX8_entry 76 = .ok (.iload_n 3, 1) := by decide +kernel
theorem dX8_entry_77 : decode cX8_entry 77 = .ok (.iconst (-1), 1) := by decide +kernel
theorem dX8_entry_78 : decode cX8_entry 78 = .ok (.if_icmp .ne 9, 3) := by decide +kernel
theorem dX8_entry_81 : decode cX8_entry 81 = .ok (.iload 4, 2) := by decide +kernel
theorem dX8_entry_83 : decode cX8_entry 83 = .ok (.iconst (-1), 1) := by decide +kernel
theorem dX8_entry_84 : decode cX8_entry 84 = .ok (.if_icmp .ne 15, 3) := by decide +kernel
theorem dX8_entry_87 : decode cX8_entry 87 = .ok (.iload 4, 2) := by decide +kernel
theorem dX8_entry_89 : decode cX8_entry 89 = .ok (.iconst (-1), 1) := by decide +kernel
theorem dX8_entry_90 : decode cX8_entry 90 = .ok (.if_icmp .ne 19, 3) := by decide +kernel
theorem dX8_entry_93 : decode cX8_entry 93 = .ok (.iload 5, 2) := by decide +kernel
theorem dX8_entry_95 : decode cX8_entry 95 = .ok (.iconst (-1), 1) := by decide +kernel
theorem dX8_entry_96 : decode cX8_entry 96 = .ok (.if_icmp .eq 13, 3) := by decide +kernel
theorem dX8_entry_99 : decode cX8_entry 99 = .ok (.new 72, 3) := by decide +kernel
theorem dX8_entry_102 : decode cX8_entry 102 = .ok (.dup, 1) := by decide +kernel
theorem dX8_entry_103 : decode cX8_entry 103 = .ok (.ldc 103, 2) := by decide +kernel
theorem dX8_entry_105 : decode cX8_entry 105 = .ok (.invokespecial 76, 3) := by decide +kernel
theorem dX8_entry_108 : decode cX8_entry 108 = .ok (.athrow, 1) := by decide +kernel
theorem dX8_entry_109 : decode cX8_entry 109 = .ok (.aload_n 0, 1) := by decide +kernel
theorem dX8_entry_110 : decode cX8_entry 110 = .ok (.getfield 10, 3) := by decide +kernel
theorem dX8_entry_113 : decode cX8_entry 113 = .ok (.iload_n 2, 1) := by decide +kernel
theorem dX8_entry_114 : decode cX8_entry 114 = .ok (.iload_n 3, 1) := by decide +kernel
theorem dX8_entry_115 : decode cX8_entry 115 = .ok (.iload 4, 2) := by decide +kernel
theorem dX8_entry_117 : decode cX8_entry 117 = .ok (.iload 5, 2) := by decide +kernel
theorem dX8_entry_119 : decode cX8_entry 119 = .ok (.invokevirtual 105, 3) := by decide +kernel
theorem dX8_entry_122 : decode cX8_entry 122 = .ok (.ifCond .ne 14, 3) := by decide +kernel
theorem dX8_entry_125 : decode cX8_entry 125 = .ok (.aload_n 0, 1) := by decide +kernel
theorem dX8_entry_126 : decode cX8_entry 126 = .ok (.getfield 10, 3) := by decide +kernel
theorem dX8_entry_129 : decode cX8_entry 129 = .ok (.iload_n 1, 1) := by decide +kernel
theorem dX8_entry_130 : decode cX8_entry 130 = .ok (.invokevirtual 109, 3) := by decide +kernel
theorem dX8_entry_133 : decode cX8_entry 133 = .ok (.ifCond .eq 13, 3) := by decide +kernel
theorem dX8_entry_136 : decode cX8_entry 136 = .ok (.new 83, 3) := by decide +kernel
theorem dX8_entry_139 : decode cX8_entry 139 = .ok (.dup, 1) := by decide +kernel
theorem dX8_entry_140 : decode cX8_entry 140 = .ok (.ldc 112, 2) := by decide +kernel
theorem dX8_entry_142 : decode cX8_entry 142 = .ok (.invokespecial 87, 3) := by decide +kernel
theorem dX8_entry_145 : decode cX8_entry 145 = .ok (.athrow, 1) := by decide +kernel
theorem dX8_entry_146 : decode cX8_entry 146 = .ok (.aload_n 0, 1) := by decide +kernel
theorem dX8_entry_147 : decode cX8_entry 147 = .ok (.getfield 10, 3) := by decide +kernel
theorem dX8_entry_150 : decode cX8_entry 150 = .ok (.iload_n 1, 1) := by decide +kernel
theorem dX8_entry_151 : decode cX8_entry 151 = .ok (.iload_n 2, 1) := by decide +kernel
theorem dX8_entry_152 : decode cX8_entry 152 = .ok (.iload_n 3, 1) := by decide +kernel
theorem dX8_entry_153 : decode cX8_entry 153 = .ok (.iload 4, 2) := by decide +kernel
theorem dX8_entry_155 : decode cX8_entry 155 = .ok (.iload 5, 2) := by decide +kernel
theorem dX8_entry_157 : decode cX8_entry 157 = .ok (.invokevirtual 114, 3) := by decide +kernel
theorem dX8_entry_160 : decode cX8_entry 160 = .ok (.istore 6, 2) := by decide +kernel
theorem dX8_entry_162 : decode cX8_entry 162 = .ok (.iload 6, 2) := by decide +kernel
theorem dX8_entry_164 : decode cX8_entry 164 = .ok (.iconst (-1), 1) := by decide +kernel
theorem dX8_entry_165 : decode cX8_entry 165 = .ok (.if_icmp .ne 13, 3) := by decide +kernel
theorem dX8_entry_168 : decode cX8_entry 168 = .ok (.new 83, 3) := by decide +kernel
theorem dX8_entry_171 : decode cX8_entry 171 = .ok (.dup, 1) := by decide +kernel
theorem dX8_entry_172 : decode cX8_entry 172 = .ok (.ldc 118, 2) := by decide +kernel
theorem dX8_entry_174 : decode cX8_entry 174 = .ok (.invokespecial 87, 3) := by decide +kernel
theorem dX8_entry_177 : decode cX8_entry 177 = .ok (.athrow, 1) := by decide +kernel
theorem dX8_entry_178 : decode cX8_entry 178 = .ok (.iload 6, 2) := by decide +kernel
theorem dX8_entry_180 : decode cX8_entry 180 = .ok (.ireturn, 1) := by decide +kernel
theorem dX8_candidates_0 : decode cX8_candidates 0 = .ok (.iload_n 1, 1) := by decide +kernel
theorem dX8_candidates_1 : decode cX8_candidates 1 = .ok (.iconst 0, 1) := by decide +kernel
theorem dX8_candidates_2 : decode cX8_candidates 2 = .ok (.ldc 100, 2) := by decide +kernel
theorem dX8_candidates_4 : decode cX8_candidates 4 = .ok (.invokestatic 68, 3) := by decide +kernel
theorem dX8_candidates_7 : decode cX8_candidates 7 = .ok (.ifCond .eq 13, 3) := by decide +kernel
theorem dX8_candidates_10 : decode cX8_candidates 10 = .ok (.new 72, 3) := by decide +kernel
theorem dX8_candidates_13 : decode cX8_candidates 13 = .ok (.dup, 1) := by decide +kernel
theorem dX8_candidates_14 : decode cX8_candidates 14 = .ok (.ldc 101, 2) := by decide +kernel
theorem dX8_candidates_16 : decode cX8_candidates 16 = .ok (.invokespecial 76, 3) := by decide +kernel
theorem dX8_candidates_19 : decode cX8_candidates 19 = .ok (.athrow, 1) := by decide +kernel
theorem dX8_candidates_20 : decode cX8_candidates 20 = .ok (.aload_n 0, 1) := by decide +kernel
theorem dX8_candidates_21 : decode cX8_candidates 21 = .ok (.getfield 10, 3) := by decide +kernel
theorem dX8_candidates_24 : decode cX8_candidates 24 = .ok (.iload_n 1, 1) := by decide +kernel
theorem dX8_candidates_25 : decode cX8_candidates 25 = .ok (.invokevirtual 120, 3) := by decide +kernel
theorem dX8_candidates_28 : decode cX8_candidates 28 = .ok (.aload_n 0, 1) := by decide +kernel
theorem dX8_candidates_29 : decode cX8_candidates 29 = .ok (.getfield 10, 3) := by decide +kernel
theorem dX8_candidates_32 : decode cX8_candidates 32 = .ok (.getfield 124, 3) := by decide +kernel
theorem dX8_candidates_35 : decode cX8_candidates 35 = .ok (.ireturn, 1) := by decide +kernel
theorem dX8_candidate_0 : decode cX8_candidate 0 = .ok (.iload_n 2, 1) := by decide +kernel
theorem dX8_candidate_1 : decode cX8_candidate 1 = .ok (.ifCond .ge 13, 3) := by decide +kernel
theorem dX8_candidate_4 : decode cX8_candidate 4 = .ok (.new 95, 3) := by decide +kernel
theorem dX8_candidate_7 : decode cX8_candidate 7 = .ok (.dup, 1) := by decide +kernel
theorem dX8_candidate_8 : decode cX8_candidate 8 = .ok (.ldc 127, 2) := by decide +kernel
theorem dX8_candidate_10 : decode cX8_candidate 10 = .ok (.invokespecial 99, 3) := by decide +kernel
theorem dX8_candidate_13 : decode cX8_candidate 13 = .ok (.athrow, 1) := by decide +kernel
theorem dX8_candidate_14 : decode cX8_candidate 14 = .ok (.iload_n 1, 1) := by decide +kernel
theorem dX8_candidate_15 : decode cX8_candidate 15 = .ok (.iconst 0, 1) := by decide +kernel
theorem dX8_candidate_16 : decode cX8_candidate 16 = .ok (.ldc 100, 2) := by decide +kernel
theorem dX8_candidate_18 : decode cX8_candidate 18 = .ok (.invokestatic 68, 3) := by decide +kernel
theorem dX8_candidate_21 : decode cX8_candidate 21 = .ok (.ifCond .eq 13, 3) := by decide +kernel
theorem dX8_candidate_24 : decode cX8_candidate 24 = .ok (.new 72, 3) := by decide +kernel
theorem dX8_candidate_27 : decode cX8_candidate 27 = .ok (.dup, 1) := by decide +kernel
theorem dX8_candidate_28 : decode cX8_candidate 28 = .ok (.ldc 101, 2) := by decide +kernel
theorem dX8_candidate_30 : decode cX8_candidate 30 = .ok (.invokespecial 76, 3) := by decide +kernel
theorem dX8_candidate_33 : decode cX8_candidate 33 = .ok (.athrow, 1) := by decide +kernel
theorem dX8_candidate_34 : decode cX8_candidate 34 = .ok (.aload_n 0, 1) := by decide +kernel
theorem dX8_candidate_35 : decode cX8_candidate 35 = .ok (.getfield 10, 3) := by decide +kernel
theorem dX8_candidate_38 : decode cX8_candidate 38 = .ok (.iload_n 1, 1) := by decide +kernel
theorem dX8_candidate_39 : decode cX8_candidate 39 = .ok (.invokevirtual 120, 3) := by decide +kernel
theorem dX8_candidate_42 : decode cX8_candidate 42 = .ok (.aload_n 0, 1) := by decide +kernel
theorem dX8_candidate_43 : decode cX8_candidate 43 = .ok (.getfield 10, 3) := by decide +kernel
theorem dX8_candidate_46 : decode cX8_candidate 46 = .ok (.iload_n 2, 1) := by decide +kernel
theorem dX8_candidate_47 : decode cX8_candidate 47 = .ok (.invokevirtual 129, 3) := by decide +kernel
theorem dX8_candidate_50 : decode cX8_candidate 50 = .ok (.ireturn, 1) := by decide +kernel
theorem dX8_office_0 : decode cX8_office 0 = .ok (.aload_n 0, 1) := by decide +kernel
theorem dX8_office_1 : decode cX8_office 1 = .ok (.getfield 35, 3) := by decide +kernel
theorem dX8_office_4 : decode cX8_office 4 = .ok (.invokevirtual 132, 3) := by decide +kernel
theorem dX8_office_7 : decode cX8_office 7 = .ok (.istore_n 1, 1) := by decide +kernel
theorem dX8_office_8 : decode cX8_office 8 = .ok (.iload_n 1, 1) := by decide +kernel
theorem dX8_office_9 : decode cX8_office 9 = .ok (.iconst (-1), 1) := by decide +kernel
theorem dX8_office_10 : decode cX8_office 10 = .ok (.if_icmp .ne 13, 3) := by decide +kernel
theorem dX8_office_13 : decode cX8_office 13 = .ok (.new 83, 3) := by decide +kernel
theorem dX8_office_16 : decode cX8_office 16 = .ok (.dup, 1) := by decide +kernel
theorem dX8_office_17 : decode cX8_office 17 = .ok (.ldc 136, 2) := by decide +kernel
theorem dX8_office_19 : decode cX8_office 19 = .ok (.invokespecial 87, 3) := by decide +kernel
theorem dX8_office_22 : decode cX8_office 22 = .ok (.athrow, 1) := by decide +kernel
theorem dX8_office_23 : decode cX8_office 23 = .ok (.iload_n 1, 1) := by decide +kernel
theorem dX8_office_24 : decode cX8_office 24 = .ok (.ireturn, 1) := by decide +kernel
theorem dX8_cable_0 : decode cX8_cable 0 = .ok (.aload_n 0, 1) := by decide +kernel
theorem dX8_cable_1 : decode cX8_cable 1 = .ok (.getfield 35, 3) := by decide +kernel
theorem dX8_cable_4 : decode cX8_cable 4 = .ok (.iload_n 1, 1) := by decide +kernel
theorem dX8_cable_5 : decode cX8_cable 5 = .ok (.invokevirtual 138, 3) := by decide +kernel
theorem dX8_cable_8 : decode cX8_cable 8 = .ok (.ifnull 14, 3) := by decide +kernel
theorem dX8_cable_11 : decode cX8_cable 11 = .ok (.aload_n 0, 1) := by decide +kernel
theorem dX8_cable_12 : decode cX8_cable 12 = .ok (.getfield 35, 3) := by decide +kernel
theorem dX8_cable_15 : decode cX8_cable 15 = .ok (.iload_n 2, 1) := by decide +kernel
theorem dX8_cable_16 : decode cX8_cable 16 = .ok (.invokevirtual 138, 3) := by decide +kernel
theorem dX8_cable_19 : decode cX8_cable 19 = .ok (.ifnonnull 13, 3) := by decide +kernel
theorem dX8_cable_22 : decode cX8_cable 22 = .ok (.new 95, 3) := by decide +kernel
theorem dX8_cable_25 : decode cX8_cable 25 = .ok (.dup, 1) := by decide +kernel
theorem dX8_cable_26 : decode cX8_cable 26 = .ok (.ldc 142, 2) := by decide +kernel
theorem dX8_cable_28 : decode cX8_cable 28 = .ok (.invokespecial 99, 3) := by decide +kernel
theorem dX8_cable_31 : decode cX8_cable 31 = .ok (.athrow, 1) := by decide +kernel
theorem dX8_cable_32 : decode cX8_cable 32 = .ok (.iload_n 1, 1) := by decide +kernel
theorem dX8_cable_33 : decode cX8_cable 33 = .ok (.iload_n 2, 1) := by decide +kernel
theorem dX8_cable_34 : decode cX8_cable 34 = .ok (.if_icmp .eq 24, 3) := by decide +kernel
theorem dX8_cable_37 : decode cX8_cable 37 = .ok (.iload_n 3, 1) := by decide +kernel
theorem dX8_cable_38 : decode cX8_cable 38 = .ok (.iconst 1, 1) := by decide +kernel
theorem dX8_cable_39 : decode cX8_cable 39 = .ok (.bipush 100, 2) := by decide +kernel
theorem dX8_cable_41 : decode cX8_cable 41 = .ok (.invokestatic 68, 3) := by decide +kernel
theorem dX8_cable_44 : decode cX8_cable 44 = .ok (.ifCond .ne 14, 3) := by decide +kernel
theorem dX8_cable_47 : decode cX8_cable 47 = .ok (.iload 4, 2) := by decide +kernel
theorem dX8_cable_49 : decode cX8_cable 49 = .ok (.iconst 1, 1) := by decide +kernel
theorem dX8_cable_50 : decode cX8_cable 50 = .ok (.bipush 20, 2) := by decide +kernel
theorem dX8_cable_52 : decode cX8_cable 52 = .ok (.invokestatic 68, 3) := by decide +kernel
theorem dX8_cable_55 : decode cX8_cable 55 = .ok (.ifCond .eq 13, 3) := by decide +kernel
theorem dX8_cable_58 : decode cX8_cable 58 = .ok (.new 72, 3) := by decide +kernel
theorem dX8_cable_61 : decode cX8_cable 61 = .ok (.dup, 1) := by decide +kernel
theorem dX8_cable_62 : decode cX8_cable 62 = .ok (.ldc 144, 2) := by decide +kernel
theorem dX8_cable_64 : decode cX8_cable 64 = .ok (.invokespecial 76, 3) := by decide +kernel
theorem dX8_cable_67 : decode cX8_cable 67 = .ok (.athrow, 1) := by decide +kernel
theorem dX8_cable_68 : decode cX8_cable 68 = .ok (.aload_n 0, 1) := by decide +kernel
theorem dX8_cable_69 : decode cX8_cable 69 = .ok (.getfield 35, 3) := by decide +kernel
theorem dX8_cable_72 : decode cX8_cable 72 = .ok (.iload_n 1, 1) := by decide +kernel
theorem dX8_cable_73 : decode cX8_cable 73 = .ok (.iload_n 2, 1) := by decide +kernel
theorem dX8_cable_74 : decode cX8_cable 74 = .ok (.iload_n 3, 1) := by decide +kernel
theorem dX8_cable_75 : decode cX8_cable 75 = .ok (.iload 4, 2) := by decide +kernel
theorem dX8_cable_77 : decode cX8_cable 77 = .ok (.invokevirtual 146, 3) := by decide +kernel
theorem dX8_cable_80 : decode cX8_cable 80 = .ok (.istore 5, 2) := by decide +kernel
theorem dX8_cable_82 : decode cX8_cable 82 = .ok (.iload 5, 2) := by decide +kernel
theorem dX8_cable_84 : decode cX8_cable 84 = .ok (.iconst (-1), 1) := by decide +kernel
theorem dX8_cable_85 : decode cX8_cable 85 = .ok (.if_icmp .ne 13, 3) := by decide +kernel
theorem dX8_cable_88 : decode cX8_cable 88 = .ok (.new 83, 3) := by decide +kernel
theorem dX8_cable_91 : decode cX8_cable 91 = .ok (.dup, 1) := by decide +kernel
theorem dX8_cable_92 : decode cX8_cable 92 = .ok (.ldc 150, 2) := by decide +kernel
theorem dX8_cable_94 : decode cX8_cable 94 = .ok (.invokespecial 87, 3) := by decide +kernel
theorem dX8_cable_97 : decode cX8_cable 97 = .ok (.athrow, 1) := by decide +kernel
theorem dX8_cable_98 : decode cX8_cable 98 = .ok (.iload 5, 2) := by decide +kernel
theorem dX8_cable_100 : decode cX8_cable 100 = .ok (.ireturn, 1) := by decide +kernel
theorem dX8_broken_0 : decode cX8_broken 0 = .ok (.aload_n 0, 1) := by decide +kernel
theorem dX8_broken_1 : decode cX8_broken 1 = .ok (.getfield 35, 3) := by decide +kernel
theorem dX8_broken_4 : decode cX8_broken 4 = .ok (.iload_n 1, 1) := by decide +kernel
theorem dX8_broken_5 : decode cX8_broken 5 = .ok (.invokevirtual 152, 3) := by decide +kernel
theorem dX8_broken_8 : decode cX8_broken 8 = .ok (.astore_n 3, 1) := by decide +kernel
theorem dX8_broken_9 : decode cX8_broken 9 = .ok (.aload_n 3, 1) := by decide +kernel
theorem dX8_broken_10 : decode cX8_broken 10 = .ok (.ifnonnull 13, 3) := by decide +kernel
theorem dX8_broken_13 : decode cX8_broken 13 = .ok (.new 95, 3) := by decide +kernel
theorem dX8_broken_16 : decode cX8_broken 16 = .ok (.dup, 1) := by decide +kernel
theorem dX8_broken_17 : decode cX8_broken 17 = .ok (.ldc 156, 2) := by decide +kernel
theorem dX8_broken_19 : decode cX8_broken 19 = .ok (.invokespecial 99, 3) := by decide +kernel
theorem dX8_broken_22 : decode cX8_broken 22 = .ok (.athrow, 1) := by decide +kernel
theorem dX8_broken_23 : decode cX8_broken 23 = .ok (.aload_n 3, 1) := by decide +kernel
theorem dX8_broken_24 : decode cX8_broken 24 = .ok (.iload_n 2, 1) := by decide +kernel
theorem dX8_broken_25 : decode cX8_broken 25 = .ok (.putfield 158, 3) := by decide +kernel
theorem dX8_broken_28 : decode cX8_broken 28 = .ok (.aload_n 0, 1) := by decide +kernel
theorem dX8_broken_29 : decode cX8_broken 29 = .ok (.iload_n 1, 1) := by decide +kernel
theorem dX8_broken_30 : decode cX8_broken 30 = .ok (.invokevirtual 164, 3) := by decide +kernel
theorem dX8_broken_33 : decode cX8_broken 33 = .ok (.ireturn, 1) := by decide +kernel
theorem dX8_forbid_0 : decode cX8_forbid 0 = .ok (.aload_n 0, 1) := by decide +kernel
theorem dX8_forbid_1 : decode cX8_forbid 1 = .ok (.getfield 35, 3) := by decide +kernel
theorem dX8_forbid_4 : decode cX8_forbid 4 = .ok (.iload_n 1, 1) := by decide +kernel
theorem dX8_forbid_5 : decode cX8_forbid 5 = .ok (.invokevirtual 138, 3) := by decide +kernel
theorem dX8_forbid_8 : decode cX8_forbid 8 = .ok (.astore_n 3, 1) := by decide +kernel
theorem dX8_forbid_9 : decode cX8_forbid 9 = .ok (.aload_n 3, 1) := by decide +kernel
theorem dX8_forbid_10 : decode cX8_forbid 10 = .ok (.ifnonnull 13, 3) := by decide +kernel
theorem dX8_forbid_13 : decode cX8_forbid 13 = .ok (.new 95, 3) := by decide +kernel
theorem dX8_forbid_16 : decode cX8_forbid 16 = .ok (.dup, 1) := by decide +kernel
theorem dX8_forbid_17 : decode cX8_forbid 17 = .ok (.ldc 142, 2) := by decide +kernel
theorem dX8_forbid_19 : decode cX8_forbid 19 = .ok (.invokespecial 99, 3) := by decide +kernel
theorem dX8_forbid_22 : decode cX8_forbid 22 = .ok (.athrow, 1) := by decide +kernel
theorem dX8_forbid_23 : decode cX8_forbid 23 = .ok (.aload_n 3, 1) := by decide +kernel
theorem dX8_forbid_24 : decode cX8_forbid 24 = .ok (.getfield 167, 3) := by decide +kernel
theorem dX8_forbid_27 : decode cX8_forbid 27 = .ok (.istore 4, 2) := by decide +kernel
theorem dX8_forbid_29 : decode cX8_forbid 29 = .ok (.aload_n 3, 1) := by decide +kernel
theorem dX8_forbid_30 : decode cX8_forbid 30 = .ok (.iload_n 2, 1) := by decide +kernel
theorem dX8_forbid_31 : decode cX8_forbid 31 = .ok (.putfield 167, 3) := by decide +kernel
theorem dX8_forbid_34 : decode cX8_forbid 34 = .ok (.iload 4, 2) := by decide +kernel
theorem dX8_forbid_36 : decode cX8_forbid 36 = .ok (.ireturn, 1) := by decide +kernel
theorem dX8_key_0 : decode cX8_key 0 = .ok (.aload_n 0, 1) := by decide +kernel
theorem dX8_key_1 : decode cX8_key 1 = .ok (.getfield 35, 3) := by decide +kernel
theorem dX8_key_4 : decode cX8_key 4 = .ok (.iload_n 1, 1) := by decide +kernel
theorem dX8_key_5 : decode cX8_key 5 = .ok (.invokevirtual 138, 3) := by decide +kernel
theorem dX8_key_8 : decode cX8_key 8 = .ok (.astore_n 3, 1) := by decide +kernel
theorem dX8_key_9 : decode cX8_key 9 = .ok (.aload_n 3, 1) := by decide +kernel
theorem dX8_key_10 : decode cX8_key 10 = .ok (.ifnonnull 13, 3) := by decide +kernel
theorem dX8_key_13 : decode cX8_key 13 = .ok (.new 95, 3) := by decide +kernel
theorem dX8_key_16 : decode cX8_key 16 = .ok (.dup, 1) := by decide +kernel
theorem dX8_key_17 : decode cX8_key 17 = .ok (.ldc 142, 2) := by decide +kernel
theorem dX8_key_19 : decode cX8_key 19 = .ok (.invokespecial 99, 3) := by decide +kernel
theorem dX8_key_22 : decode cX8_key 22 = .ok (.athrow, 1) := by decide +kernel
theorem dX8_key_23 : decode cX8_key 23 = .ok (.iload_n 2, 1) := by decide +kernel
theorem dX8_key_24 : decode cX8_key 24 = .ok (.iconst 0, 1) := by decide +kernel
theorem dX8_key_25 : decode cX8_key 25 = .ok (.bipush 39, 2) := by decide +kernel
theorem dX8_key_27 : decode cX8_key 27 = .ok (.invokestatic 68, 3) := by decide +kernel
theorem dX8_key_30 : decode cX8_key 30 = .ok (.ifCond .eq 13, 3) := by decide +kernel
theorem dX8_key_33 : decode cX8_key 33 = .ok (.new 72, 3) := by decide +kernel
theorem dX8_key_36 : decode cX8_key 36 = .ok (.dup, 1) := by decide +kernel
theorem dX8_key_37 : decode cX8_key 37 = .ok (.ldc 172, 2) := by decide +kernel
theorem dX8_key_39 : decode cX8_key 39 = .ok (.invokespecial 76, 3) := by decide +kernel
theorem dX8_key_42 : decode cX8_key 42 = .ok (.athrow, 1) := by decide +kernel
theorem dX8_key_43 : decode cX8_key 43 = .ok (.aload_n 3, 1) := by decide +kernel
theorem dX8_key_44 : decode cX8_key 44 = .ok (.getfield 174, 3) := by decide +kernel
theorem dX8_key_47 : decode cX8_key 47 = .ok (.istore 4, 2) := by decide +kernel
theorem dX8_key_49 : decode cX8_key 49 = .ok (.aload_n 3, 1) := by decide +kernel
theorem dX8_key_50 : decode cX8_key 50 = .ok (.iload_n 2, 1) := by decide +kernel
theorem dX8_key_51 : decode cX8_key 51 = .ok (.putfield 174, 3) := by decide +kernel
theorem dX8_key_54 : decode cX8_key 54 = .ok (.iload 4, 2) := by decide +kernel
theorem dX8_key_56 : decode cX8_key 56 = .ok (.ireturn, 1) := by decide +kernel
theorem dX8_conference_0 : decode cX8_conference 0 = .ok (.iload_n 1, 1) := by decide +kernel
theorem dX8_conference_1 : decode cX8_conference 1 = .ok (.iconst 0, 1) := by decide +kernel
theorem dX8_conference_2 : decode cX8_conference 2 = .ok (.sipush 1000, 3) := by decide +kernel
theorem dX8_conference_5 : decode cX8_conference 5 = .ok (.invokestatic 68, 3) := by decide +kernel
theorem dX8_conference_8 : decode cX8_conference 8 = .ok (.ifCond .ne 40, 3) := by decide +kernel
theorem dX8_conference_11 : decode cX8_conference 11 = .ok (.iload_n 2, 1) := by decide +kernel
theorem dX8_conference_12 : decode cX8_conference 12 = .ok (.iconst 5, 1) := by decide +kernel
theorem dX8_conference_13 : decode cX8_conference 13 = .ok (.bipush 20, 2) := by decide +kernel
theorem dX8_conference_15 : decode cX8_conference 15 = .ok (.invokestatic 68, 3) := by decide +kernel
theorem dX8_conference_18 : decode cX8_conference 18 = .ok (.ifCond .ne 30, 3) := by decide +kernel
theorem dX8_conference_21 : decode cX8_conference 21 = .ok (.iload_n 3, 1) := by decide +kernel
theorem dX8_conference_22 : decode cX8_conference 22 = .ok (.iconst 5, 1) := by decide +kernel
theorem dX8_conference_23 : decode cX8_conference 23 = .ok (.if_icmp .eq 15, 3) := by decide +kernel
theorem dX8_conference_26 : decode cX8_conference 26 = .ok (.iload_n 3, 1) := by decide +kernel
theorem dX8_conference_27 : decode cX8_conference 27 = .ok (.bipush 10, 2) := by decide +kernel
theorem dX8_conference_29 : decode cX8_conference 29 = .ok (.if_icmp .eq 9, 3) := by decide +kernel
theorem dX8_conference_32 : decode cX8_conference 32 = .ok (.iload_n 3, 1) := by decide +kernel
theorem dX8_conference_33 : decode cX8_conference 33 = .ok (.bipush 15, 2) := by decide +kernel
theorem dX8_conference_35 : decode cX8_conference 35 = .ok (.if_icmp .ne 13, 3) := by decide +kernel
theorem dX8_conference_38 : decode cX8_conference 38 = .ok (.iload 4, 2) := by decide +kernel
theorem dX8_conference_40 : decode cX8_conference 40 = .ok (.iconst 0, 1) := by decide +kernel
theorem dX8_conference_41 : decode cX8_conference 41 = .ok (.iconst 3, 1) := by decide +kernel
theorem dX8_conference_42 : decode cX8_conference 42 = .ok (.invokestatic 68, 3) := by decide +kernel
theorem dX8_conference_45 : decode cX8_conference 45 = .ok (.ifCond .eq 13, 3) := by decide +kernel
theorem dX8_conference_48 : decode cX8_conference 48 = .ok (.new 72, 3) := by decide +kernel
theorem dX8_conference_51 : decode cX8_conference 51 = .ok (.dup, 1) := by decide +kernel
theorem dX8_conference_52 : decode cX8_conference 52 = .ok (.ldc 177, 2) := by decide +kernel
theorem dX8_conference_54 : decode cX8_conference 54 = .ok (.invokespecial 76, 3) := by decide +kernel
theorem dX8_conference_57 : decode cX8_conference 57 = .ok (.athrow, 1) := by decide +kernel
theorem dX8_conference_58 : decode cX8_conference 58 = .ok (.aload_n 0, 1) := by decide +kernel
theorem dX8_conference_59 : decode cX8_conference 59 = .ok (.getfield 58, 3) := by decide +kernel
theorem dX8_conference_62 : decode cX8_conference 62 = .ok (.aload_n 0, 1) := by decide +kernel
theorem dX8_conference_63 : decode cX8_conference 63 = .ok (.getfield 48, 3) := by decide +kernel
theorem dX8_conference_66 : decode cX8_conference 66 = .ok (.arraylength, 1) := by decide +kernel
theorem dX8_conference_67 : decode cX8_conference 67 = .ok (.if_icmp .lt 13, 3) := by decide +kernel
theorem dX8_conference_70 : decode cX8_conference 70 = .ok (.new 83, 3) := by decide +kernel
theorem dX8_conference_73 : decode cX8_conference 73 = .ok (.dup, 1) := by decide +kernel
theorem dX8_conference_74 : decode cX8_conference 74 = .ok (.ldc 179, 2) := by decide +kernel
theorem dX8_conference_76 : decode cX8_conference 76 = .ok (.invokespecial 87, 3) := by decide +kernel
theorem dX8_conference_79 : decode cX8_conference 79 = .ok (.athrow, 1) := by decide +kernel
theorem dX8_conference_80 : decode cX8_conference 80 = .ok (.aload_n 0, 1) := by decide +kernel
theorem dX8_conference_81 : decode cX8_conference 81 = .ok (.getfield 58, 3) := by decide +kernel
theorem dX8_conference_84 : decode cX8_conference 84 = .ok (.iconst 1, 1) := by decide +kernel
theorem dX8_conference_85 : decode cX8_conference 85 = .ok (.iadd, 1) := by decide +kernel
theorem dX8_conference_86 : decode cX8_conference 86 = .ok (.istore 5, 2) := by decide +kernel
theorem dX8_conference_88 : decode cX8_conference 88 = .ok (.aload_n 0, 1) := by decide +kernel
theorem dX8_conference_89 : decode cX8_conference 89 = .ok (.getfield 48, 3) := by decide +kernel
theorem dX8_conference_92 : decode cX8_conference 92 = .ok (.aload_n 0, 1) := by decide +kernel
theorem dX8_conference_93 : decode cX8_conference 93 = .ok (.getfield 58, 3) := by decide +kernel
theorem dX8_conference_96 : decode cX8_conference 96 = .ok (.new 39, 3) := by decide +kernel
theorem dX8_conference_99 : decode cX8_conference 99 = .ok (.dup, 1) := by decide +kernel
theorem dX8_conference_100 : decode cX8_conference 100 = .ok (.iload 5, 2) := by decide +kernel
theorem dX8_conference_102 : decode cX8_conference 102 = .ok (.iload_n 1, 1) := by decide +kernel
theorem dX8_conference_103 : decode cX8_conference 103 = .ok (.iload_n 2, 1) := by decide +kernel
theorem dX8_conference_104 : decode cX8_conference 104 = .ok (.iload_n 3, 1) := by decide +kernel
theorem dX8_conference_105 : decode cX8_conference 105 = .ok (.iload 4, 2) := by decide +kernel
theorem dX8_conference_107 : decode cX8_conference 107 = .ok (.invokespecial 41, 3) := by decide +kernel
theorem dX8_conference_110 : decode cX8_conference 110 = .ok (.aastore, 1) := by decide +kernel
theorem dX8_conference_111 : decode cX8_conference 111 = .ok (.aload_n 0, 1) := by decide +kernel
theorem dX8_conference_112 : decode cX8_conference 112 = .ok (.iload 5, 2) := by decide +kernel
theorem dX8_conference_114 : decode cX8_conference 114 = .ok (.putfield 58, 3) := by decide +kernel
theorem dX8_conference_117 : decode cX8_conference 117 = .ok (.iload 5, 2) := by decide +kernel
theorem dX8_conference_119 : decode cX8_conference 119 = .ok (.ireturn, 1) := by decide +kernel
theorem dX8_reserve_0 : decode cX8_reserve 0 = .ok (.aload_n 0, 1) := by decide +kernel
theorem dX8_reserve_1 : decode cX8_reserve 1 = .ok (.getfield 35, 3) := by decide +kernel
theorem dX8_reserve_4 : decode cX8_reserve 4 = .ok (.iload_n 1, 1) := by decide +kernel
theorem dX8_reserve_5 : decode cX8_reserve 5 = .ok (.invokevirtual 138, 3) := by decide +kernel
theorem dX8_reserve_8 : decode cX8_reserve 8 = .ok (.astore_n 3, 1) := by decide +kernel
theorem dX8_reserve_9 : decode cX8_reserve 9 = .ok (.aload_n 3, 1) := by decide +kernel
theorem dX8_reserve_10 : decode cX8_reserve 10 = .ok (.ifnull 15, 3) := by decide +kernel
theorem dX8_reserve_13 : decode cX8_reserve 13 = .ok (.iload_n 2, 1) := by decide +kernel
theorem dX8_reserve_14 : decode cX8_reserve 14 = .ok (.iconst 1, 1) := by decide +kernel
theorem dX8_reserve_15 : decode cX8_reserve 15 = .ok (.aload_n 0, 1) := by decide +kernel
theorem dX8_reserve_16 : decode cX8_reserve 16 = .ok (.getfield 58, 3) := by decide +kernel
theorem dX8_reserve_19 : decode cX8_reserve 19 = .ok (.invokestatic 68, 3) := by decide +kernel
theorem dX8_reserve_22 : decode cX8_reserve 22 = .ok (.ifCond .eq 13, 3) := by decide +kernel
theorem dX8_reserve_25 : decode cX8_reserve 25 = .ok (.new 95, 3) := by decide +kernel
theorem dX8_reserve_28 : decode cX8_reserve 28 = .ok (.dup, 1) := by decide +kernel
theorem dX8_reserve_29 : decode cX8_reserve 29 = .ok (.ldc 181, 2) := by decide +kernel
theorem dX8_reserve_31 : decode cX8_reserve 31 = .ok (.invokespecial 99, 3) := by decide +kernel
theorem dX8_reserve_34 : decode cX8_reserve 34 = .ok (.athrow, 1) := by decide +kernel
theorem dX8_reserve_35 : decode cX8_reserve 35 = .ok (.aload_n 3, 1) := by decide +kernel
theorem dX8_reserve_36 : decode cX8_reserve 36 = .ok (.iload_n 2, 1) := by decide +kernel
theorem dX8_reserve_37 : decode cX8_reserve 37 = .ok (.invokevirtual 183, 3) := by decide +kernel
theorem dX8_reserve_40 : decode cX8_reserve 40 = .ok (.aload_n 0, 1) := by decide +kernel
theorem dX8_reserve_41 : decode cX8_reserve 41 = .ok (.aload_n 3, 1) := by decide +kernel
theorem dX8_reserve_42 : decode cX8_reserve 42 = .ok (.invokevirtual 186, 3) := by decide +kernel
theorem dX8_reserve_45 : decode cX8_reserve 45 = .ok (.getfield 190, 3) := by decide +kernel
theorem dX8_reserve_48 : decode cX8_reserve 48 = .ok (.ireturn, 1) := by decide +kernel
theorem dX8_draft_0 : decode cX8_draft 0 = .ok (.aload_n 0, 1) := by decide +kernel
theorem dX8_draft_1 : decode cX8_draft 1 = .ok (.getfield 10, 3) := by decide +kernel
theorem dX8_draft_4 : decode cX8_draft 4 = .ok (.iload_n 1, 1) := by decide +kernel
theorem dX8_draft_5 : decode cX8_draft 5 = .ok (.invokevirtual 88, 3) := by decide +kernel
theorem dX8_draft_8 : decode cX8_draft 8 = .ok (.ifCond .ne 13, 3) := by decide +kernel
theorem dX8_draft_11 : decode cX8_draft 11 = .ok (.new 95, 3) := by decide +kernel
theorem dX8_draft_14 : decode cX8_draft 14 = .ok (.dup, 1) := by decide +kernel
theorem dX8_draft_15 : decode cX8_draft 15 = .ok (.ldc 97, 2) := by decide +kernel
theorem dX8_draft_17 : decode cX8_draft 17 = .ok (.invokespecial 99, 3) := by decide +kernel
theorem dX8_draft_20 : decode cX8_draft 20 = .ok (.athrow, 1) := by decide +kernel
theorem dX8_draft_21 : decode cX8_draft 21 = .ok (.aload_n 0, 1) := by decide +kernel
theorem dX8_draft_22 : decode cX8_draft 22 = .ok (.getfield 28, 3) := by decide +kernel
theorem dX8_draft_25 : decode cX8_draft 25 = .ok (.iload_n 1, 1) := by decide +kernel
theorem dX8_draft_26 : decode cX8_draft 26 = .ok (.invokevirtual 193, 3) := by decide +kernel
theorem dX8_draft_29 : decode cX8_draft 29 = .ok (.ifCond .ne 13, 3) := by decide +kernel
theorem dX8_draft_32 : decode cX8_draft 32 = .ok (.new 83, 3) := by decide +kernel
theorem dX8_draft_35 : decode cX8_draft 35 = .ok (.dup, 1) := by decide +kernel
theorem dX8_draft_36 : decode cX8_draft 36 = .ok (.ldc 196, 2) := by decide +kernel
theorem dX8_draft_38 : decode cX8_draft 38 = .ok (.invokespecial 87, 3) := by decide +kernel
theorem dX8_draft_41 : decode cX8_draft 41 = .ok (.athrow, 1) := by decide +kernel
theorem dX8_draft_42 : decode cX8_draft 42 = .ok (.aload_n 0, 1) := by decide +kernel
theorem dX8_draft_43 : decode cX8_draft 43 = .ok (.getfield 28, 3) := by decide +kernel
theorem dX8_draft_46 : decode cX8_draft 46 = .ok (.getfield 198, 3) := by decide +kernel
theorem dX8_draft_49 : decode cX8_draft 49 = .ok (.ireturn, 1) := by decide +kernel
theorem dX8_words_0 : decode cX8_words 0 = .ok (.aload_n 0, 1) := by decide +kernel
theorem dX8_words_1 : decode cX8_words 1 = .ok (.getfield 35, 3) := by decide +kernel
theorem dX8_words_4 : decode cX8_words 4 = .ok (.iload_n 1, 1) := by decide +kernel
theorem dX8_words_5 : decode cX8_words 5 = .ok (.invokevirtual 138, 3) := by decide +kernel
theorem dX8_words_8 : decode cX8_words 8 = .ok (.astore_n 3, 1) := by decide +kernel
theorem dX8_words_9 : decode cX8_words 9 = .ok (.aload_n 3, 1) := by decide +kernel
theorem dX8_words_10 : decode cX8_words 10 = .ok (.ifnonnull 13, 3) := by decide +kernel
theorem dX8_words_13 : decode cX8_words 13 = .ok (.new 95, 3) := by decide +kernel
theorem dX8_words_16 : decode cX8_words 16 = .ok (.dup, 1) := by decide +kernel
theorem dX8_words_17 : decode cX8_words 17 = .ok (.ldc 142, 2) := by decide +kernel
theorem dX8_words_19 : decode cX8_words 19 = .ok (.invokespecial 99, 3) := by decide +kernel
theorem dX8_words_22 : decode cX8_words 22 = .ok (.athrow, 1) := by decide +kernel
theorem dX8_words_23 : decode cX8_words 23 = .ok (.aload_n 0, 1) := by decide +kernel
theorem dX8_words_24 : decode cX8_words 24 = .ok (.getfield 21, 3) := by decide +kernel
theorem dX8_words_27 : decode cX8_words 27 = .ok (.aload_n 0, 1) := by decide +kernel
theorem dX8_words_28 : decode cX8_words 28 = .ok (.getfield 28, 3) := by decide +kernel
theorem dX8_words_31 : decode cX8_words 31 = .ok (.aload_n 3, 1) := by decide +kernel
theorem dX8_words_32 : decode cX8_words 32 = .ok (.getfield 174, 3) := by decide +kernel
theorem dX8_words_35 : decode cX8_words 35 = .ok (.aload_n 0, 1) := by decide +kernel
theorem dX8_words_36 : decode cX8_words 36 = .ok (.aload_n 3, 1) := by decide +kernel
theorem dX8_words_37 : decode cX8_words 37 = .ok (.invokevirtual 186, 3) := by decide +kernel
theorem dX8_words_40 : decode cX8_words 40 = .ok (.iload_n 2, 1) := by decide +kernel
theorem dX8_words_41 : decode cX8_words 41 = .ok (.invokevirtual 201, 3) := by decide +kernel
theorem dX8_words_44 : decode cX8_words 44 = .ok (.aload_n 0, 1) := by decide +kernel
theorem dX8_words_45 : decode cX8_words 45 = .ok (.getfield 21, 3) := by decide +kernel
theorem dX8_words_48 : decode cX8_words 48 = .ok (.getfield 205, 3) := by decide +kernel
theorem dX8_words_51 : decode cX8_words 51 = .ok (.ireturn, 1) := by decide +kernel
theorem dX8_send_0 : decode cX8_send 0 = .ok (.aload_n 0, 1) := by decide +kernel
theorem dX8_send_1 : decode cX8_send 1 = .ok (.getfield 35, 3) := by decide +kernel
theorem dX8_send_4 : decode cX8_send 4 = .ok (.iload_n 1, 1) := by decide +kernel
theorem dX8_send_5 : decode cX8_send 5 = .ok (.invokevirtual 138, 3) := by decide +kernel
theorem dX8_send_8 : decode cX8_send 8 = .ok (.astore 5, 2) := by decide +kernel
theorem dX8_send_10 : decode cX8_send 10 = .ok (.aload 5, 2) := by decide +kernel
theorem dX8_send_12 : decode cX8_send 12 = .ok (.ifnull 14, 3) := by decide +kernel
theorem dX8_send_15 : decode cX8_send 15 = .ok (.aload_n 0, 1) := by decide +kernel
theorem dX8_send_16 : decode cX8_send 16 = .ok (.getfield 35, 3) := by decide +kernel
theorem dX8_send_19 : decode cX8_send 19 = .ok (.iload_n 2, 1) := by decide +kernel
theorem dX8_send_20 : decode cX8_send 20 = .ok (.invokevirtual 138, 3) := by decide +kernel
theorem dX8_send_23 : decode cX8_send 23 = .ok (.ifnonnull 13, 3) := by decide +kernel
theorem dX8_send_26 : decode cX8_send 26 = .ok (.new 95, 3) := by decide +kernel
theorem dX8_send_29 : decode cX8_send 29 = .ok (.dup, 1) := by decide +kernel
theorem dX8_send_30 : decode cX8_send 30 = .ok (.ldc 142, 2) := by decide +kernel
theorem dX8_send_32 : decode cX8_send 32 = .ok (.invokespecial 99, 3) := by decide +kernel
theorem dX8_send_35 : decode cX8_send 35 = .ok (.athrow, 1) := by decide +kernel
theorem dX8_send_36 : decode cX8_send 36 = .ok (.iload_n 1, 1) := by decide +kernel
theorem dX8_send_37 : decode cX8_send 37 = .ok (.iload_n 2, 1) := by decide +kernel
theorem dX8_send_38 : decode cX8_send 38 = .ok (.if_icmp .eq 12, 3) := by decide +kernel
theorem dX8_send_41 : decode cX8_send 41 = .ok (.iload_n 3, 1) := by decide +kernel
theorem dX8_send_42 : decode cX8_send 42 = .ok (.iconst 0, 1) := by decide +kernel
theorem dX8_send_43 : decode cX8_send 43 = .ok (.iconst 2, 1) := by decide +kernel
theorem dX8_send_44 : decode cX8_send 44 = .ok (.invokestatic 68, 3) := by decide +kernel
theorem dX8_send_47 : decode cX8_send 47 = .ok (.ifCond .eq 13, 3) := by decide +kernel
theorem dX8_send_50 : decode cX8_send 50 = .ok (.new 72, 3) := by decide +kernel
theorem dX8_send_53 : decode cX8_send 53 = .ok (.dup, 1) := by decide +kernel
theorem dX8_send_54 : decode cX8_send 54 = .ok (.ldc 208, 2) := by decide +kernel
theorem dX8_send_56 : decode cX8_send 56 = .ok (.invokespecial 76, 3) := by decide +kernel
theorem dX8_send_59 : decode cX8_send 59 = .ok (.athrow, 1) := by decide +kernel
theorem dX8_send_60 : decode cX8_send 60 = .ok (.aload_n 0, 1) := by decide +kernel
theorem dX8_send_61 : decode cX8_send 61 = .ok (.getfield 28, 3) := by decide +kernel
theorem dX8_send_64 : decode cX8_send 64 = .ok (.getfield 198, 3) := by decide +kernel
theorem dX8_send_67 : decode cX8_send 67 = .ok (.ifCond .eq 27, 3) := by decide +kernel
theorem dX8_send_70 : decode cX8_send 70 = .ok (.aload_n 0, 1) := by decide +kernel
theorem dX8_send_71 : decode cX8_send 71 = .ok (.getfield 62, 3) := by decide +kernel
theorem dX8_send_74 : decode cX8_send 74 = .ok (.aload_n 0, 1) := by decide +kernel
theorem dX8_send_75 : decode cX8_send 75 = .ok (.getfield 54, 3) := by decide +kernel
theorem dX8_send_78 : decode cX8_send 78 = .ok (.arraylength, 1) := by decide +kernel
theorem dX8_send_79 : decode cX8_send 79 = .ok (.if_icmp .ge 15, 3) := by decide +kernel
theorem dX8_send_82 : decode cX8_send 82 = .ok (.aload_n 0, 1) := by decide +kernel
theorem dX8_send_83 : decode cX8_send 83 = .ok (.getfield 35, 3) := by decide +kernel
theorem dX8_send_86 : decode cX8_send 86 = .ok (.iload_n 1, 1) := by decide +kernel
theorem dX8_send_87 : decode cX8_send 87 = .ok (.iload_n 2, 1) := by decide +kernel
theorem dX8_send_88 : decode cX8_send 88 = .ok (.invokevirtual 210, 3) := by decide +kernel
theorem dX8_send_91 : decode cX8_send 91 = .ok (.ifCond .ne 13, 3) := by decide +kernel
theorem dX8_send_94 : decode cX8_send 94 = .ok (.new 83, 3) := by decide +kernel
theorem dX8_send_97 : decode cX8_send 97 = .ok (.dup, 1) := by decide +kernel
theorem dX8_send_98 : decode cX8_send 98 = .ok (.ldc 214, 2) := by decide +kernel
theorem dX8_send_100 : decode cX8_send 100 = .ok (.invokespecial 87, 3) := by decide +kernel
theorem dX8_send_103 : decode cX8_send 103 = .ok (.athrow, 1) := by decide +kernel
theorem dX8_send_104 : decode cX8_send 104 = .ok (.aload_n 0, 1) := by decide +kernel
theorem dX8_send_105 : decode cX8_send 105 = .ok (.getfield 21, 3) := by decide +kernel
theorem dX8_send_108 : decode cX8_send 108 = .ok (.aload_n 0, 1) := by decide +kernel
theorem dX8_send_109 : decode cX8_send 109 = .ok (.getfield 28, 3) := by decide +kernel
theorem dX8_send_112 : decode cX8_send 112 = .ok (.aload 5, 2) := by decide +kernel
theorem dX8_send_114 : decode cX8_send 114 = .ok (.getfield 174, 3) := by decide +kernel
theorem dX8_send_117 : decode cX8_send 117 = .ok (.aload_n 0, 1) := by decide +kernel
theorem dX8_send_118 : decode cX8_send 118 = .ok (.aload 5, 2) := by decide +kernel
theorem dX8_send_120 : decode cX8_send 120 = .ok (.invokevirtual 186, 3) := by decide +kernel
theorem dX8_send_123 : decode cX8_send 123 = .ok (.iload 4, 2) := by decide +kernel
theorem dX8_send_125 : decode cX8_send 125 = .ok (.invokevirtual 201, 3) := by decide +kernel
theorem dX8_send_128 : decode cX8_send 128 = .ok (.new 52, 3) := by decide +kernel
theorem dX8_send_131 : decode cX8_send 131 = .ok (.dup, 1) := by decide +kernel
theorem dX8_send_132 : decode cX8_send 132 = .ok (.iload_n 1, 1) := by decide +kernel
theorem dX8_send_133 : decode cX8_send 133 = .ok (.iload_n 2, 1) := by decide +kernel
theorem dX8_send_134 : decode cX8_send 134 = .ok (.iload_n 3, 1) := by decide +kernel
theorem dX8_send_135 : decode cX8_send 135 = .ok (.aload_n 0, 1) := by decide +kernel
theorem dX8_send_136 : decode cX8_send 136 = .ok (.getfield 21, 3) := by decide +kernel
theorem dX8_send_139 : decode cX8_send 139 = .ok (.aload_n 0, 1) := by decide +kernel
theorem dX8_send_140 : decode cX8_send 140 = .ok (.getfield 35, 3) := by decide +kernel
theorem dX8_send_143 : decode cX8_send 143 = .ok (.invokespecial 216, 3) := by decide +kernel
theorem dX8_send_146 : decode cX8_send 146 = .ok (.astore 6, 2) := by decide +kernel
theorem dX8_send_148 : decode cX8_send 148 = .ok (.aload_n 0, 1) := by decide +kernel
theorem dX8_send_149 : decode cX8_send 149 = .ok (.getfield 54, 3) := by decide +kernel
theorem dX8_send_152 : decode cX8_send 152 = .ok (.aload_n 0, 1) := by decide +kernel
theorem dX8_send_153 : decode cX8_send 153 = .ok (.getfield 62, 3) := by decide +kernel
theorem dX8_send_156 : decode cX8_send 156 = .ok (.aload 6, 2) := by decide +kernel
theorem dX8_send_158 : decode cX8_send 158 = .ok (.aastore, 1) := by decide +kernel
theorem dX8_send_159 : decode cX8_send 159 = .ok (.aload_n 0, 1) := by decide +kernel
theorem dX8_send_160 : decode cX8_send 160 = .ok (.dup, 1) := by decide +kernel
theorem dX8_send_161 : decode cX8_send 161 = .ok (.getfield 62, 3) := by decide +kernel
theorem dX8_send_164 : decode cX8_send 164 = .ok (.iconst 1, 1) := by decide +kernel
theorem dX8_send_165 : decode cX8_send 165 = .ok (.iadd, 1) := by decide +kernel
theorem dX8_send_166 : decode cX8_send 166 = .ok (.putfield 62, 3) := by decide +kernel
theorem dX8_send_169 : decode cX8_send 169 = .ok (.aload_n 0, 1) := by decide +kernel
theorem dX8_send_170 : decode cX8_send 170 = .ok (.getfield 28, 3) := by decide +kernel
theorem dX8_send_173 : decode cX8_send 173 = .ok (.iconst 0, 1) := by decide +kernel
theorem dX8_send_174 : decode cX8_send 174 = .ok (.putfield 198, 3) := by decide +kernel
theorem dX8_send_177 : decode cX8_send 177 = .ok (.aload_n 0, 1) := by decide +kernel
theorem dX8_send_178 : decode cX8_send 178 = .ok (.aload 6, 2) := by decide +kernel
theorem dX8_send_180 : decode cX8_send 180 = .ok (.invokevirtual 219, 3) := by decide +kernel
theorem dX8_send_183 : decode cX8_send 183 = .ok (.aload_n 0, 1) := by decide +kernel
theorem dX8_send_184 : decode cX8_send 184 = .ok (.aload 6, 2) := by decide +kernel
theorem dX8_send_186 : decode cX8_send 186 = .ok (.iload_n 1, 1) := by decide +kernel
theorem dX8_send_187 : decode cX8_send 187 = .ok (.invokevirtual 223, 3) := by decide +kernel
theorem dX8_send_190 : decode cX8_send 190 = .ok (.aload_n 0, 1) := by decide +kernel
theorem dX8_send_191 : decode cX8_send 191 = .ok (.getfield 62, 3) := by decide +kernel
theorem dX8_send_194 : decode cX8_send 194 = .ok (.iconst 1, 1) := by decide +kernel
theorem dX8_send_195 : decode cX8_send 195 = .ok (.isub, 1) := by decide +kernel
theorem dX8_send_196 : decode cX8_send 196 = .ok (.ireturn, 1) := by decide +kernel
theorem dX8_wrong_0 : decode cX8_wrong 0 = .ok (.aload_n 0, 1) := by decide +kernel
theorem dX8_wrong_1 : decode cX8_wrong 1 = .ok (.iload_n 1, 1) := by decide +kernel
theorem dX8_wrong_2 : decode cX8_wrong 2 = .ok (.invokevirtual 227, 3) := by decide +kernel
theorem dX8_wrong_5 : decode cX8_wrong 5 = .ok (.astore 5, 2) := by decide +kernel
theorem dX8_wrong_7 : decode cX8_wrong 7 = .ok (.aload 5, 2) := by decide +kernel
theorem dX8_wrong_9 : decode cX8_wrong 9 = .ok (.ifnull 12, 3) := by decide +kernel
theorem dX8_wrong_12 : decode cX8_wrong 12 = .ok (.aload 5, 2) := by decide +kernel
theorem dX8_wrong_14 : decode cX8_wrong 14 = .ok (.iload_n 2, 1) := by decide +kernel
theorem dX8_wrong_15 : decode cX8_wrong 15 = .ok (.invokevirtual 231, 3) := by decide +kernel
theorem dX8_wrong_18 : decode cX8_wrong 18 = .ok (.ifCond .ne 13, 3) := by decide +kernel
theorem dX8_wrong_21 : decode cX8_wrong 21 = .ok (.new 95, 3) := by decide +kernel
theorem dX8_wrong_24 : decode cX8_wrong 24 = .ok (.dup, 1) := by decide +kernel
theorem dX8_wrong_25 : decode cX8_wrong 25 = .ok (.ldc 234, 2) := by decide +kernel
theorem dX8_wrong_27 : decode cX8_wrong 27 = .ok (.invokespecial 99, 3) := by decide +kernel
theorem dX8_wrong_30 : decode cX8_wrong 30 = .ok (.athrow, 1) := by decide +kernel
theorem dX8_wrong_31 : decode cX8_wrong 31 = .ok (.iload_n 3, 1) := by decide +kernel
theorem dX8_wrong_32 : decode cX8_wrong 32 = .ok (.iconst 0, 1) := by decide +kernel
theorem dX8_wrong_33 : decode cX8_wrong 33 = .ok (.iconst 4, 1) := by decide +kernel
theorem dX8_wrong_34 : decode cX8_wrong 34 = .ok (.invokestatic 68, 3) := by decide +kernel
theorem dX8_wrong_37 : decode cX8_wrong 37 = .ok (.ifCond .ne 14, 3) := by decide +kernel
theorem dX8_wrong_40 : decode cX8_wrong 40 = .ok (.iload 4, 2) := by decide +kernel
theorem dX8_wrong_42 : decode cX8_wrong 42 = .ok (.iconst 0, 1) := by decide +kernel
theorem dX8_wrong_43 : decode cX8_wrong 43 = .ok (.bipush 25, 2) := by decide +kernel
theorem dX8_wrong_45 : decode cX8_wrong 45 = .ok (.invokestatic 68, 3) := by decide +kernel
theorem dX8_wrong_48 : decode cX8_wrong 48 = .ok (.ifCond .eq 13, 3) := by decide +kernel
theorem dX8_wrong_51 : decode cX8_wrong 51 = .ok (.new 72, 3) := by decide +kernel
theorem dX8_wrong_54 : decode cX8_wrong 54 = .ok (.dup, 1) := by decide +kernel
theorem dX8_wrong_55 : decode cX8_wrong 55 = .ok (.ldc 236, 2) := by decide +kernel
theorem dX8_wrong_57 : decode cX8_wrong 57 = .ok (.invokespecial 76, 3) := by decide +kernel
theorem dX8_wrong_60 : decode cX8_wrong 60 = .ok (.athrow, 1) := by decide +kernel
theorem dX8_wrong_61 : decode cX8_wrong 61 = .ok (.aload 5, 2) := by decide +kernel
theorem dX8_wrong_63 : decode cX8_wrong 63 = .ok (.getfield 238, 3) := by decide +kernel
theorem dX8_wrong_66 : decode cX8_wrong 66 = .ok (.ifCond .ne 15, 3) := by decide +kernel
theorem dX8_wrong_69 : decode cX8_wrong 69 = .ok (.aload 5, 2) := by decide +kernel
theorem dX8_wrong_71 : decode cX8_wrong 71 = .ok (.iload_n 2, 1) := by decide +kernel
theorem dX8_wrong_72 : decode cX8_wrong 72 = .ok (.invokevirtual 241, 3) := by decide +kernel
theorem dX8_wrong_75 : decode cX8_wrong 75 = .ok (.invokestatic 244, 3) := by decide +kernel
theorem dX8_wrong_78 : decode cX8_wrong 78 = .ok (.ifCond .ne 13, 3) := by decide +kernel
theorem dX8_wrong_81 : decode cX8_wrong 81 = .ok (.new 83, 3) := by decide +kernel
theorem dX8_wrong_84 : decode cX8_wrong 84 = .ok (.dup, 1) := by decide +kernel
theorem dX8_wrong_85 : decode cX8_wrong 85 = .ok (.ldc 247, 2) := by decide +kernel
theorem dX8_wrong_87 : decode cX8_wrong 87 = .ok (.invokespecial 87, 3) := by decide +kernel
theorem dX8_wrong_90 : decode cX8_wrong 90 = .ok (.athrow, 1) := by decide +kernel
theorem dX8_wrong_91 : decode cX8_wrong 91 = .ok (.aload 5, 2) := by decide +kernel
theorem dX8_wrong_93 : decode cX8_wrong 93 = .ok (.iload_n 2, 1) := by decide +kernel
theorem dX8_wrong_94 : decode cX8_wrong 94 = .ok (.aload 5, 2) := by decide +kernel
theorem dX8_wrong_96 : decode cX8_wrong 96 = .ok (.iload_n 2, 1) := by decide +kernel
theorem dX8_wrong_97 : decode cX8_wrong 97 = .ok (.invokevirtual 241, 3) := by decide +kernel
theorem dX8_wrong_100 : decode cX8_wrong 100 = .ok (.iload_n 3, 1) := by decide +kernel
theorem dX8_wrong_101 : decode cX8_wrong 101 = .ok (.iload 4, 2) := by decide +kernel
theorem dX8_wrong_103 : decode cX8_wrong 103 = .ok (.invokestatic 249, 3) := by decide +kernel
theorem dX8_wrong_106 : decode cX8_wrong 106 = .ok (.invokevirtual 253, 3) := by decide +kernel
theorem dX8_wrong_109 : decode cX8_wrong 109 = .ok (.aload 5, 2) := by decide +kernel
theorem dX8_wrong_111 : decode cX8_wrong 111 = .ok (.iload_n 2, 1) := by decide +kernel
theorem dX8_wrong_112 : decode cX8_wrong 112 = .ok (.invokevirtual 241, 3) := by decide +kernel
theorem dX8_wrong_115 : decode cX8_wrong 115 = .ok (.ireturn, 1) := by decide +kernel
theorem dX8_pass_0 : decode cX8_pass 0 = .ok (.iload_n 1, 1) := by decide +kernel
theorem dX8_pass_1 : decode cX8_pass 1 = .ok (.iconst 1, 1) := by decide +kernel
theorem dX8_pass_2 : decode cX8_pass 2 = .ok (.bipush 60, 2) := by decide +kernel
theorem dX8_pass_4 : decode cX8_pass 4 = .ok (.invokestatic 68, 3) := by decide +kernel
theorem dX8_pass_7 : decode cX8_pass 7 = .ok (.ifCond .eq 14, 3) := by decide +kernel
theorem dX8_pass_10 : decode cX8_pass 10 = .ok (.new 72, 3) := by decide +kernel
theorem dX8_pass_13 : decode cX8_pass 13 = .ok (.dup, 1) := by decide +kernel
theorem dX8_pass_14 : decode cX8_pass 14 = .ok (.ldc_w 257, 3) := by decide +kernel
theorem dX8_pass_17 : decode cX8_pass 17 = .ok (.invokespecial 76, 3) := by decide +kernel
theorem dX8_pass_20 : decode cX8_pass 20 = .ok (.athrow, 1) := by decide +kernel
theorem dX8_pass_21 : decode cX8_pass 21 = .ok (.aload_n 0, 1) := by decide +kernel
theorem dX8_pass_22 : decode cX8_pass 22 = .ok (.getfield 65, 3) := by decide +kernel
theorem dX8_pass_25 : decode cX8_pass 25 = .ok (.iload_n 1, 1) := by decide +kernel
theorem dX8_pass_26 : decode cX8_pass 26 = .ok (.iadd, 1) := by decide +kernel
theorem dX8_pass_27 : decode cX8_pass 27 = .ok (.ldc_w 259, 3) := by decide +kernel
theorem dX8_pass_30 : decode cX8_pass 30 = .ok (.if_icmp .le 14, 3) := by decide +kernel
theorem dX8_pass_33 : decode cX8_pass 33 = .ok (.new 83, 3) := by decide +kernel
theorem dX8_pass_36 : decode cX8_pass 36 = .ok (.dup, 1) := by decide +kernel
theorem dX8_pass_37 : decode cX8_pass 37 = .ok (.ldc_w 260, 3) := by decide +kernel
theorem dX8_pass_40 : decode cX8_pass 40 = .ok (.invokespecial 87, 3) := by decide +kernel
theorem dX8_pass_43 : decode cX8_pass 43 = .ok (.athrow, 1) := by decide +kernel
theorem dX8_pass_44 : decode cX8_pass 44 = .ok (.iconst 0, 1) := by decide +kernel
theorem dX8_pass_45 : decode cX8_pass 45 = .ok (.istore_n 2, 1) := by decide +kernel
theorem dX8_pass_46 : decode cX8_pass 46 = .ok (.iload_n 2, 1) := by decide +kernel
theorem dX8_pass_47 : decode cX8_pass 47 = .ok (.iload_n 1, 1) := by decide +kernel
theorem dX8_pass_48 : decode cX8_pass 48 = .ok (.if_icmp .ge 20, 3) := by decide +kernel
theorem dX8_pass_51 : decode cX8_pass 51 = .ok (.aload_n 0, 1) := by decide +kernel
theorem dX8_pass_52 : decode cX8_pass 52 = .ok (.invokevirtual 262, 3) := by decide +kernel
theorem dX8_pass_55 : decode cX8_pass 55 = .ok (.ifCond .eq 13, 3) := by decide +kernel
theorem dX8_pass_58 : decode cX8_pass 58 = .ok (.aload_n 0, 1) := by decide +kernel
theorem dX8_pass_59 : decode cX8_pass 59 = .ok (.invokevirtual 266, 3) := by decide +kernel
theorem dX8_pass_62 : decode cX8_pass 62 = .ok (.iinc 2 1, 3) := by decide +kernel
theorem dX8_pass_65 : decode cX8_pass 65 = .ok (.goto (-19), 3) := by decide +kernel
theorem dX8_pass_68 : decode cX8_pass 68 = .ok (.aload_n 0, 1) := by decide +kernel
theorem dX8_pass_69 : decode cX8_pass 69 = .ok (.dup, 1) := by decide +kernel
theorem dX8_pass_70 : decode cX8_pass 70 = .ok (.getfield 65, 3) := by decide +kernel
theorem dX8_pass_73 : decode cX8_pass 73 = .ok (.iload_n 1, 1) := by decide +kernel
theorem dX8_pass_74 : decode cX8_pass 74 = .ok (.iadd, 1) := by decide +kernel
theorem dX8_pass_75 : decode cX8_pass 75 = .ok (.putfield 65, 3) := by decide +kernel
theorem dX8_pass_78 : decode cX8_pass 78 = .ok (.aload_n 0, 1) := by decide +kernel
theorem dX8_pass_79 : decode cX8_pass 79 = .ok (.getfield 65, 3) := by decide +kernel
theorem dX8_pass_82 : decode cX8_pass 82 = .ok (.ireturn, 1) := by decide +kernel
theorem dX8_rest_0 : decode cX8_rest 0 = .ok (.iload_n 1, 1) := by decide +kernel
theorem dX8_rest_1 : decode cX8_rest 1 = .ok (.iconst 1, 1) := by decide +kernel
theorem dX8_rest_2 : decode cX8_rest 2 = .ok (.bipush 100, 2) := by decide +kernel
theorem dX8_rest_4 : decode cX8_rest 4 = .ok (.invokestatic 68, 3) := by decide +kernel
theorem dX8_rest_7 : decode cX8_rest 7 = .ok (.ifCond .eq 14, 3) := by decide +kernel
theorem dX8_rest_10 : decode cX8_rest 10 = .ok (.new 72, 3) := by decide +kernel
theorem dX8_rest_13 : decode cX8_rest 13 = .ok (.dup, 1) := by decide +kernel
theorem dX8_rest_14 : decode cX8_rest 14 = .ok (.ldc_w 269, 3) := by decide +kernel
theorem dX8_rest_17 : decode cX8_rest 17 = .ok (.invokespecial 76, 3) := by decide +kernel
theorem dX8_rest_20 : decode cX8_rest 20 = .ok (.athrow, 1) := by decide +kernel
theorem dX8_rest_21 : decode cX8_rest 21 = .ok (.aload_n 0, 1) := by decide +kernel
theorem dX8_rest_22 : decode cX8_rest 22 = .ok (.getfield 65, 3) := by decide +kernel
theorem dX8_rest_25 : decode cX8_rest 25 = .ok (.iload_n 1, 1) := by decide +kernel
theorem dX8_rest_26 : decode cX8_rest 26 = .ok (.sipush 1440, 3) := by decide +kernel
theorem dX8_rest_29 : decode cX8_rest 29 = .ok (.imul, 1) := by decide +kernel
theorem dX8_rest_30 : decode cX8_rest 30 = .ok (.iadd, 1) := by decide +kernel
theorem dX8_rest_31 : decode cX8_rest 31 = .ok (.ldc_w 259, 3) := by decide +kernel
theorem dX8_rest_34 : decode cX8_rest 34 = .ok (.if_icmp .le 14, 3) := by decide +kernel
theorem dX8_rest_37 : decode cX8_rest 37 = .ok (.new 83, 3) := by decide +kernel
theorem dX8_rest_40 : decode cX8_rest 40 = .ok (.dup, 1) := by decide +kernel
theorem dX8_rest_41 : decode cX8_rest 41 = .ok (.ldc_w 260, 3) := by decide +kernel
theorem dX8_rest_44 : decode cX8_rest 44 = .ok (.invokespecial 87, 3) := by decide +kernel
theorem dX8_rest_47 : decode cX8_rest 47 = .ok (.athrow, 1) := by decide +kernel
theorem dX8_rest_48 : decode cX8_rest 48 = .ok (.aload_n 0, 1) := by decide +kernel
theorem dX8_rest_49 : decode cX8_rest 49 = .ok (.dup, 1) := by decide +kernel
theorem dX8_rest_50 : decode cX8_rest 50 = .ok (.getfield 65, 3) := by decide +kernel
theorem dX8_rest_53 : decode cX8_rest 53 = .ok (.iload_n 1, 1) := by decide +kernel
theorem dX8_rest_54 : decode cX8_rest 54 = .ok (.sipush 1440, 3) := by decide +kernel
theorem dX8_rest_57 : decode cX8_rest 57 = .ok (.imul, 1) := by decide +kernel
theorem dX8_rest_58 : decode cX8_rest 58 = .ok (.iadd, 1) := by decide +kernel
theorem dX8_rest_59 : decode cX8_rest 59 = .ok (.putfield 65, 3) := by decide +kernel
theorem dX8_rest_62 : decode cX8_rest 62 = .ok (.aload_n 0, 1) := by decide +kernel
theorem dX8_rest_63 : decode cX8_rest 63 = .ok (.getfield 65, 3) := by decide +kernel
theorem dX8_rest_66 : decode cX8_rest 66 = .ok (.ireturn, 1) := by decide +kernel
theorem dX8_ofMessage_0 : decode cX8_ofMessage 0 = .ok (.aload_n 0, 1) := by decide +kernel
theorem dX8_ofMessage_1 : decode cX8_ofMessage 1 = .ok (.iload_n 1, 1) := by decide +kernel
theorem dX8_ofMessage_2 : decode cX8_ofMessage 2 = .ok (.invokevirtual 227, 3) := by decide +kernel
theorem dX8_ofMessage_5 : decode cX8_ofMessage 5 = .ok (.astore_n 3, 1) := by decide +kernel
theorem dX8_ofMessage_6 : decode cX8_ofMessage 6 = .ok (.aload_n 3, 1) := by decide +kernel
theorem dX8_ofMessage_7 : decode cX8_ofMessage 7 = .ok (.ifnonnull 14, 3) := by decide +kernel
theorem dX8_ofMessage_10 : decode cX8_ofMessage 10 = .ok (.new 95, 3) := by decide +kernel
theorem dX8_ofMessage_13 : decode cX8_ofMessage 13 = .ok (.dup, 1) := by decide +kernel
theorem dX8_ofMessage_14 : decode cX8_ofMessage 14 = .ok (.ldc_w 271, 3) := by decide +kernel
theorem dX8_ofMessage_17 : decode cX8_ofMessage 17 = .ok (.invokespecial 99, 3) := by decide +kernel
theorem dX8_ofMessage_20 : decode cX8_ofMessage 20 = .ok (.athrow, 1) := by decide +kernel
theorem dX8_ofMessage_21 : decode cX8_ofMessage 21 = .ok (.iload_n 2, 1) := by decide +kernel
theorem dX8_ofMessage_22 : decode cX8_ofMessage 22 = .ok (.tableswitch 81 0 5 #[38, 43, 49, 54, 59, 64], 38) := by decide +kernel
theorem dX8_ofMessage_60 : decode cX8_ofMessage 60 = .ok (.aload_n 3, 1) := by decide +kernel
theorem dX8_ofMessage_61 : decode cX8_ofMessage 61 = .ok (.getfield 238, 3) := by decide +kernel
theorem dX8_ofMessage_64 : decode cX8_ofMessage 64 = .ok (.ireturn, 1) := by decide +kernel
theorem dX8_ofMessage_65 : decode cX8_ofMessage 65 = .ok (.aload_n 3, 1) := by decide +kernel
theorem dX8_ofMessage_66 : decode cX8_ofMessage 66 = .ok (.getfield 273, 3) := by decide +kernel
theorem dX8_ofMessage_69 : decode cX8_ofMessage 69 = .ok (.arraylength, 1) := by decide +kernel
theorem dX8_ofMessage_70 : decode cX8_ofMessage 70 = .ok (.ireturn, 1) := by decide +kernel
theorem dX8_ofMessage_71 : decode cX8_ofMessage 71 = .ok (.aload_n 3, 1) := by decide +kernel
theorem dX8_ofMessage_72 : decode cX8_ofMessage 72 = .ok (.getfield 277, 3) := by decide +kernel
theorem dX8_ofMessage_75 : decode cX8_ofMessage 75 = .ok (.ireturn, 1) := by decide +kernel
theorem dX8_ofMessage_76 : decode cX8_ofMessage 76 = .ok (.aload_n 3, 1) := by decide +kernel
theorem dX8_ofMessage_77 : decode cX8_ofMessage 77 = .ok (.getfield 278, 3) := by decide +kernel
theorem dX8_ofMessage_80 : decode cX8_ofMessage 80 = .ok (.ireturn, 1) := by decide +kernel
theorem dX8_ofMessage_81 : decode cX8_ofMessage 81 = .ok (.aload_n 3, 1) := by decide +kernel
theorem dX8_ofMessage_82 : decode cX8_ofMessage 82 = .ok (.invokevirtual 281, 3) := by decide +kernel
theorem dX8_ofMessage_85 : decode cX8_ofMessage 85 = .ok (.ireturn, 1) := by decide +kernel
theorem dX8_ofMessage_86 : decode cX8_ofMessage 86 = .ok (.aload_n 3, 1) := by decide +kernel
theorem dX8_ofMessage_87 : decode cX8_ofMessage 87 = .ok (.getfield 238, 3) := by decide +kernel
theorem dX8_ofMessage_90 : decode cX8_ofMessage 90 = .ok (.iconst 2, 1) := by decide +kernel
theorem dX8_ofMessage_91 : decode cX8_ofMessage 91 = .ok (.if_icmp .ne 10, 3) := by decide +kernel
theorem dX8_ofMessage_94 : decode cX8_ofMessage 94 = .ok (.aload_n 3, 1) := by decide +kernel
theorem dX8_ofMessage_95 : decode cX8_ofMessage 95 = .ok (.getfield 284, 3) := by decide +kernel
theorem dX8_ofMessage_98 : decode cX8_ofMessage 98 = .ok (.goto 4, 3) := by decide +kernel
theorem dX8_ofMessage_101 : decode cX8_ofMessage 101 = .ok (.iconst (-1), 1) := by decide +kernel
theorem dX8_ofMessage_102 : decode cX8_ofMessage 102 = .ok (.ireturn, 1) := by decide +kernel
theorem dX8_ofMessage_103 : decode cX8_ofMessage 103 = .ok (.new 72, 3) := by decide +kernel
theorem dX8_ofMessage_106 : decode cX8_ofMessage 106 = .ok (.dup, 1) := by decide +kernel
theorem dX8_ofMessage_107 : decode cX8_ofMessage 107 = .ok (.ldc_w 287, 3) := by decide +kernel
theorem dX8_ofMessage_110 : decode cX8_ofMessage 110 = .ok (.invokespecial 76, 3) := by decide +kernel
theorem dX8_ofMessage_113 : decode cX8_ofMessage 113 = .ok (.athrow, 1) := by decide +kernel
theorem dX8_word_0 : decode cX8_word 0 = .ok (.aload_n 0, 1) := by decide +kernel
theorem dX8_word_1 : decode cX8_word 1 = .ok (.iload_n 1, 1) := by decide +kernel
theorem dX8_word_2 : decode cX8_word 2 = .ok (.invokevirtual 227, 3) := by decide +kernel
theorem dX8_word_5 : decode cX8_word 5 = .ok (.astore 4, 2) := by decide +kernel
theorem dX8_word_7 : decode cX8_word 7 = .ok (.aload 4, 2) := by decide +kernel
theorem dX8_word_9 : decode cX8_word 9 = .ok (.ifnull 12, 3) := by decide +kernel
theorem dX8_word_12 : decode cX8_word 12 = .ok (.aload 4, 2) := by decide +kernel
theorem dX8_word_14 : decode cX8_word 14 = .ok (.iload_n 2, 1) := by decide +kernel
theorem dX8_word_15 : decode cX8_word 15 = .ok (.invokevirtual 231, 3) := by decide +kernel
theorem dX8_word_18 : decode cX8_word 18 = .ok (.ifCond .ne 13, 3) := by decide +kernel
theorem dX8_word_21 : decode cX8_word 21 = .ok (.new 95, 3) := by decide +kernel
theorem dX8_word_24 : decode cX8_word 24 = .ok (.dup, 1) := by decide +kernel
theorem dX8_word_25 : decode cX8_word 25 = .ok (.ldc 234, 2) := by decide +kernel
theorem dX8_word_27 : decode cX8_word 27 = .ok (.invokespecial 99, 3) := by decide +kernel
theorem dX8_word_30 : decode cX8_word 30 = .ok (.athrow, 1) := by decide +kernel
theorem dX8_word_31 : decode cX8_word 31 = .ok (.iload_n 3, 1) := by decide +kernel
theorem dX8_word_32 : decode cX8_word 32 = .ok (.ifCond .eq 12, 3) := by decide +kernel
theorem dX8_word_35 : decode cX8_word 35 = .ok (.aload 4, 2) := by decide +kernel
theorem dX8_word_37 : decode cX8_word 37 = .ok (.iload_n 2, 1) := by decide +kernel
theorem dX8_word_38 : decode cX8_word 38 = .ok (.invokevirtual 289, 3) := by decide +kernel
theorem dX8_word_41 : decode cX8_word 41 = .ok (.goto 9, 3) := by decide +kernel
theorem dX8_word_44 : decode cX8_word 44 = .ok (.aload 4, 2) := by decide +kernel
theorem dX8_word_46 : decode cX8_word 46 = .ok (.iload_n 2, 1) := by decide +kernel
theorem dX8_word_47 : decode cX8_word 47 = .ok (.invokevirtual 241, 3) := by decide +kernel
theorem dX8_word_50 : decode cX8_word 50 = .ok (.ireturn, 1) := by decide +kernel
theorem dX8_read_0 : decode cX8_read 0 = .ok (.aload_n 0, 1) := by decide +kernel
theorem dX8_read_1 : decode cX8_read 1 = .ok (.iload_n 1, 1) := by decide +kernel
theorem dX8_read_2 : decode cX8_read 2 = .ok (.invokevirtual 227, 3) := by decide +kernel
theorem dX8_read_5 : decode cX8_read 5 = .ok (.astore_n 3, 1) := by decide +kernel
theorem dX8_read_6 : decode cX8_read 6 = .ok (.aload_n 3, 1) := by decide +kernel
theorem dX8_read_7 : decode cX8_read 7 = .ok (.ifnull 7, 3) := by decide +kernel
theorem dX8_read_10 : decode cX8_read 10 = .ok (.iload_n 2, 1) := by decide +kernel
theorem dX8_read_11 : decode cX8_read 11 = .ok (.ifCond .ge 14, 3) := by decide +kernel
theorem dX8_read_14 : decode cX8_read 14 = .ok (.new 95, 3) := by decide +kernel
theorem dX8_read_17 : decode cX8_read 17 = .ok (.dup, 1) := by decide +kernel
theorem dX8_read_18 : decode cX8_read 18 = .ok (.ldc_w 292, 3) := by decide +kernel
theorem dX8_read_21 : decode cX8_read 21 = .ok (.invokespecial 99, 3) := by decide +kernel
theorem dX8_read_24 : decode cX8_read 24 = .ok (.athrow, 1) := by decide +kernel
theorem dX8_read_25 : decode cX8_read 25 = .ok (.aload_n 0, 1) := by decide +kernel
theorem dX8_read_26 : decode cX8_read 26 = .ok (.getfield 35, 3) := by decide +kernel
theorem dX8_read_29 : decode cX8_read 29 = .ok (.aload_n 3, 1) := by decide +kernel
theorem dX8_read_30 : decode cX8_read 30 = .ok (.getfield 294, 3) := by decide +kernel
theorem dX8_read_33 : decode cX8_read 33 = .ok (.invokevirtual 138, 3) := by decide +kernel
theorem dX8_read_36 : decode cX8_read 36 = .ok (.astore 4, 2) := by decide +kernel
theorem dX8_read_38 : decode cX8_read 38 = .ok (.aload 4, 2) := by decide +kernel
theorem dX8_read_40 : decode cX8_read 40 = .ok (.ifnonnull 7, 3) := by decide +kernel
theorem dX8_read_43 : decode cX8_read 43 = .ok (.iconst 0, 1) := by decide +kernel
theorem dX8_read_44 : decode cX8_read 44 = .ok (.goto 8, 3) := by decide +kernel
theorem dX8_read_47 : decode cX8_read 47 = .ok (.aload 4, 2) := by decide +kernel
theorem dX8_read_49 : decode cX8_read 49 = .ok (.getfield 174, 3) := by decide +kernel
theorem dX8_read_52 : decode cX8_read 52 = .ok (.istore 5, 2) := by decide +kernel
theorem dX8_read_54 : decode cX8_read 54 = .ok (.iconst 0, 1) := by decide +kernel
theorem dX8_read_55 : decode cX8_read 55 = .ok (.istore 6, 2) := by decide +kernel
theorem dX8_read_57 : decode cX8_read 57 = .ok (.iconst 0, 1) := by decide +kernel
theorem dX8_read_58 : decode cX8_read 58 = .ok (.istore 7, 2) := by decide +kernel
theorem dX8_read_60 : decode cX8_read 60 = .ok (.iload 7, 2) := by decide +kernel
theorem dX8_read_62 : decode cX8_read 62 = .ok (.aload_n 3, 1) := by decide +kernel
theorem dX8_read_63 : decode cX8_read 63 = .ok (.getfield 297, 3) := by decide +kernel
theorem dX8_read_66 : decode cX8_read 66 = .ok (.arraylength, 1) := by decide +kernel
theorem dX8_read_67 : decode cX8_read 67 = .ok (.if_icmp .ge 127, 3) := by decide +kernel
theorem dX8_read_70 : decode cX8_read 70 = .ok (.aload_n 3, 1) := by decide +kernel
theorem dX8_read_71 : decode cX8_read 71 = .ok (.getfield 297, 3) := by decide +kernel
theorem dX8_read_74 : decode cX8_read 74 = .ok (.iload 7, 2) := by decide +kernel
theorem dX8_read_76 : decode cX8_read 76 = .ok (.iaload, 1) := by decide +kernel
theorem dX8_read_77 : decode cX8_read 77 = .ok (.istore 8, 2) := by decide +kernel
theorem dX8_read_79 : decode cX8_read 79 = .ok (.iload 8, 2) := by decide +kernel
theorem dX8_read_81 : decode cX8_read 81 = .ok (.invokestatic 244, 3) := by decide +kernel
theorem dX8_read_84 : decode cX8_read 84 = .ok (.ifCond .eq 25, 3) := by decide +kernel
theorem dX8_read_87 : decode cX8_read 87 = .ok (.aload_n 0, 1) := by decide +kernel
theorem dX8_read_88 : decode cX8_read 88 = .ok (.getfield 10, 3) := by decide +kernel
theorem dX8_read_91 : decode cX8_read 91 = .ok (.aload_n 0, 1) := by decide +kernel
theorem dX8_read_92 : decode cX8_read 92 = .ok (.getfield 10, 3) := by decide +kernel
theorem dX8_read_95 : decode cX8_read 95 = .ok (.iload 8, 2) := by decide +kernel
theorem dX8_read_97 : decode cX8_read 97 = .ok (.invokevirtual 300, 3) := by decide +kernel
theorem dX8_read_100 : decode cX8_read 100 = .ok (.iload 5, 2) := by decide +kernel
theorem dX8_read_102 : decode cX8_read 102 = .ok (.ineg, 1) := by decide +kernel
theorem dX8_read_103 : decode cX8_read 103 = .ok (.invokevirtual 303, 3) := by decide +kernel
theorem dX8_read_106 : decode cX8_read 106 = .ok (.goto 4, 3) := by decide +kernel
theorem dX8_read_109 : decode cX8_read 109 = .ok (.iconst (-1), 1) := by decide +kernel
theorem dX8_read_110 : decode cX8_read 110 = .ok (.istore 9, 2) := by decide +kernel
theorem dX8_read_112 : decode cX8_read 112 = .ok (.iload 9, 2) := by decide +kernel
theorem dX8_read_114 : decode cX8_read 114 = .ok (.iconst (-1), 1) := by decide +kernel
theorem dX8_read_115 : decode cX8_read 115 = .ok (.if_icmp .ne 7, 3) := by decide +kernel
theorem dX8_read_118 : decode cX8_read 118 = .ok (.iconst 1, 1) := by decide +kernel
theorem dX8_read_119 : decode cX8_read 119 = .ok (.goto 12, 3) := by decide +kernel
theorem dX8_read_122 : decode cX8_read 122 = .ok (.aload_n 0, 1) := by decide +kernel
theorem dX8_read_123 : decode cX8_read 123 = .ok (.getfield 10, 3) := by decide +kernel
theorem dX8_read_126 : decode cX8_read 126 = .ok (.iload 9, 2) := by decide +kernel
theorem dX8_read_128 : decode cX8_read 128 = .ok (.invokevirtual 307, 3) := by decide +kernel
theorem dX8_read_131 : decode cX8_read 131 = .ok (.istore 10, 2) := by decide +kernel
theorem dX8_read_133 : decode cX8_read 133 = .ok (.iload_n 2, 1) := by decide +kernel
theorem dX8_read_134 : decode cX8_read 134 = .ok (.iload 6, 2) := by decide +kernel
theorem dX8_read_136 : decode cX8_read 136 = .ok (.isub, 1) := by decide +kernel
theorem dX8_read_137 : decode cX8_read 137 = .ok (.iload 10, 2) := by decide +kernel
theorem dX8_read_139 : decode cX8_read 139 = .ok (.if_icmp .ge 42, 3) := by decide +kernel
theorem dX8_read_142 : decode cX8_read 142 = .ok (.iload 8, 2) := by decide +kernel
theorem dX8_read_144 : decode cX8_read 144 = .ok (.invokestatic 244, 3) := by decide +kernel
theorem dX8_read_147 : decode cX8_read 147 = .ok (.ifCond .ne 9, 3) := by decide +kernel
theorem dX8_read_150 : decode cX8_read 150 = .ok (.iload 8, 2) := by decide +kernel
theorem dX8_read_152 : decode cX8_read 152 = .ok (.invokestatic 310, 3) := by decide +kernel
theorem dX8_read_155 : decode cX8_read 155 = .ok (.ireturn, 1) := by decide +kernel
theorem dX8_read_156 : decode cX8_read 156 = .ok (.iload 9, 2) := by decide +kernel
theorem dX8_read_158 : decode cX8_read 158 = .ok (.iconst (-1), 1) := by decide +kernel
theorem dX8_read_159 : decode cX8_read 159 = .ok (.if_icmp .ne 8, 3) := by decide +kernel
theorem dX8_read_162 : decode cX8_read 162 = .ok (.bipush (-2), 2) := by decide +kernel
theorem dX8_read_164 : decode cX8_read 164 = .ok (.goto 16, 3) := by decide +kernel
theorem dX8_read_167 : decode cX8_read 167 = .ok (.aload_n 0, 1) := by decide +kernel
theorem dX8_read_168 : decode cX8_read 168 = .ok (.getfield 10, 3) := by decide +kernel
theorem dX8_read_171 : decode cX8_read 171 = .ok (.iload 9, 2) := by decide +kernel
theorem dX8_read_173 : decode cX8_read 173 = .ok (.iload_n 2, 1) := by decide +kernel
theorem dX8_read_174 : decode cX8_read 174 = .ok (.iload 6, 2) := by decide +kernel
theorem dX8_read_176 : decode cX8_read 176 = .ok (.isub, 1) := by decide +kernel
theorem dX8_read_177 : decode cX8_read 177 = .ok (.invokevirtual 313, 3) := by decide +kernel
theorem dX8_read_180 : decode cX8_read 180 = .ok (.ireturn, 1) := by decide +kernel
theorem dX8_read_181 : decode cX8_read 181 = .ok (.iload 6, 2) := by decide +kernel
theorem dX8_read_183 : decode cX8_read 183 = .ok (.iload 10, 2) := by decide +kernel
theorem dX8_read_185 : decode cX8_read 185 = .ok (.iadd, 1) := by decide +kernel
theorem dX8_read_186 : decode cX8_read 186 = .ok (.istore 6, 2) := by decide +kernel
theorem dX8_read_188 : decode cX8_read 188 = .ok (.iinc 7 1, 3) := by decide +kernel
theorem dX8_read_191 : decode cX8_read 191 = .ok (.goto (-131), 3) := by decide +kernel
theorem dX8_read_194 : decode cX8_read 194 = .ok (.iconst (-1), 1) := by decide +kernel
theorem dX8_read_195 : decode cX8_read 195 = .ok (.ireturn, 1) := by decide +kernel
theorem dX8_claim_0 : decode cX8_claim 0 = .ok (.aload_n 0, 1) := by decide +kernel
theorem dX8_claim_1 : decode cX8_claim 1 = .ok (.iload_n 1, 1) := by decide +kernel
theorem dX8_claim_2 : decode cX8_claim 2 = .ok (.invokevirtual 227, 3) := by decide +kernel
theorem dX8_claim_5 : decode cX8_claim 5 = .ok (.astore_n 2, 1) := by decide +kernel
theorem dX8_claim_6 : decode cX8_claim 6 = .ok (.aload_n 2, 1) := by decide +kernel
theorem dX8_claim_7 : decode cX8_claim 7 = .ok (.ifnonnull 14, 3) := by decide +kernel
theorem dX8_claim_10 : decode cX8_claim 10 = .ok (.new 95, 3) := by decide +kernel
theorem dX8_claim_13 : decode cX8_claim 13 = .ok (.dup, 1) := by decide +kernel
theorem dX8_claim_14 : decode cX8_claim 14 = .ok (.ldc_w 271, 3) := by decide +kernel
theorem dX8_claim_17 : decode cX8_claim 17 = .ok (.invokespecial 99, 3) := by decide +kernel
theorem dX8_claim_20 : decode cX8_claim 20 = .ok (.athrow, 1) := by decide +kernel
theorem dX8_claim_21 : decode cX8_claim 21 = .ok (.iconst 0, 1) := by decide +kernel
theorem dX8_claim_22 : decode cX8_claim 22 = .ok (.istore_n 3, 1) := by decide +kernel
theorem dX8_claim_23 : decode cX8_claim 23 = .ok (.iload_n 3, 1) := by decide +kernel
theorem dX8_claim_24 : decode cX8_claim 24 = .ok (.aload_n 2, 1) := by decide +kernel
theorem dX8_claim_25 : decode cX8_claim 25 = .ok (.getfield 273, 3) := by decide +kernel
theorem dX8_claim_28 : decode cX8_claim 28 = .ok (.arraylength, 1) := by decide +kernel
theorem dX8_claim_29 : decode cX8_claim 29 = .ok (.if_icmp .ge 42, 3) := by decide +kernel
theorem dX8_claim_32 : decode cX8_claim 32 = .ok (.aload_n 2, 1) := by decide +kernel
theorem dX8_claim_33 : decode cX8_claim 33 = .ok (.iload_n 3, 1) := by decide +kernel
theorem dX8_claim_34 : decode cX8_claim 34 = .ok (.invokevirtual 289, 3) := by decide +kernel
theorem dX8_claim_37 : decode cX8_claim 37 = .ok (.istore 4, 2) := by decide +kernel
theorem dX8_claim_39 : decode cX8_claim 39 = .ok (.aload_n 2, 1) := by decide +kernel
theorem dX8_claim_40 : decode cX8_claim 40 = .ok (.iload_n 3, 1) := by decide +kernel
theorem dX8_claim_41 : decode cX8_claim 41 = .ok (.invokevirtual 241, 3) := by decide +kernel
theorem dX8_claim_44 : decode cX8_claim 44 = .ok (.istore 5, 2) := by decide +kernel
theorem dX8_claim_46 : decode cX8_claim 46 = .ok (.iload 4, 2) := by decide +kernel
theorem dX8_claim_48 : decode cX8_claim 48 = .ok (.iload 5, 2) := by decide +kernel
theorem dX8_claim_50 : decode cX8_claim 50 = .ok (.if_icmp .eq 15, 3) := by decide +kernel
theorem dX8_claim_53 : decode cX8_claim 53 = .ok (.iload_n 3, 1) := by decide +kernel
theorem dX8_claim_54 : decode cX8_claim 54 = .ok (.iconst 5, 1) := by decide +kernel
theorem dX8_claim_55 : decode cX8_claim 55 = .ok (.imul, 1) := by decide +kernel
theorem dX8_claim_56 : decode cX8_claim 56 = .ok (.iload 4, 2) := by decide +kernel
theorem dX8_claim_58 : decode cX8_claim 58 = .ok (.iload 5, 2) := by decide +kernel
theorem dX8_claim_60 : decode cX8_claim 60 = .ok (.invokestatic 316, 3) := by decide +kernel
theorem dX8_claim_63 : decode cX8_claim 63 = .ok (.iadd, 1) := by decide +kernel
theorem dX8_claim_64 : decode cX8_claim 64 = .ok (.ireturn, 1) := by decide +kernel
theorem dX8_claim_65 : decode cX8_claim 65 = .ok (.iinc 3 1, 3) := by decide +kernel
theorem dX8_claim_68 : decode cX8_claim 68 = .ok (.goto (-45), 3) := by decide +kernel
theorem dX8_claim_71 : decode cX8_claim 71 = .ok (.iconst (-1), 1) := by decide +kernel
theorem dX8_claim_72 : decode cX8_claim 72 = .ok (.ireturn, 1) := by decide +kernel
theorem dX8_account_0 : decode cX8_account 0 = .ok (.aload_n 0, 1) := by decide +kernel
theorem dX8_account_1 : decode cX8_account 1 = .ok (.getfield 35, 3) := by decide +kernel
theorem dX8_account_4 : decode cX8_account 4 = .ok (.iload_n 1, 1) := by decide +kernel
theorem dX8_account_5 : decode cX8_account 5 = .ok (.invokevirtual 138, 3) := by decide +kernel
theorem dX8_account_8 : decode cX8_account 8 = .ok (.astore_n 2, 1) := by decide +kernel
theorem dX8_account_9 : decode cX8_account 9 = .ok (.aload_n 2, 1) := by decide +kernel
theorem dX8_account_10 : decode cX8_account 10 = .ok (.ifnonnull 13, 3) := by decide +kernel
theorem dX8_account_13 : decode cX8_account 13 = .ok (.new 95, 3) := by decide +kernel
theorem dX8_account_16 : decode cX8_account 16 = .ok (.dup, 1) := by decide +kernel
theorem dX8_account_17 : decode cX8_account 17 = .ok (.ldc 142, 2) := by decide +kernel
theorem dX8_account_19 : decode cX8_account 19 = .ok (.invokespecial 99, 3) := by decide +kernel
theorem dX8_account_22 : decode cX8_account 22 = .ok (.athrow, 1) := by decide +kernel
theorem dX8_account_23 : decode cX8_account 23 = .ok (.aload_n 2, 1) := by decide +kernel
theorem dX8_account_24 : decode cX8_account 24 = .ok (.getfield 319, 3) := by decide +kernel
theorem dX8_account_27 : decode cX8_account 27 = .ok (.ireturn, 1) := by decide +kernel
theorem dX8_accountAnew_0 : decode cX8_accountAnew 0 = .ok (.aload_n 0, 1) := by decide +kernel
theorem dX8_accountAnew_1 : decode cX8_accountAnew 1 = .ok (.getfield 35, 3) := by decide +kernel
theorem dX8_accountAnew_4 : decode cX8_accountAnew 4 = .ok (.iload_n 1, 1) := by decide +kernel
theorem dX8_accountAnew_5 : decode cX8_accountAnew 5 = .ok (.invokevirtual 138, 3) := by decide +kernel
theorem dX8_accountAnew_8 : decode cX8_accountAnew 8 = .ok (.ifnonnull 13, 3) := by decide +kernel
theorem dX8_accountAnew_11 : decode cX8_accountAnew 11 = .ok (.new 95, 3) := by decide +kernel
theorem dX8_accountAnew_14 : decode cX8_accountAnew 14 = .ok (.dup, 1) := by decide +kernel
theorem dX8_accountAnew_15 : decode cX8_accountAnew 15 = .ok (.ldc 142, 2) := by decide +kernel
theorem dX8_accountAnew_17 : decode cX8_accountAnew 17 = .ok (.invokespecial 99, 3) := by decide +kernel
theorem dX8_accountAnew_20 : decode cX8_accountAnew 20 = .ok (.athrow, 1) := by decide +kernel
theorem dX8_accountAnew_21 : decode cX8_accountAnew 21 = .ok (.iconst 0, 1) := by decide +kernel
theorem dX8_accountAnew_22 : decode cX8_accountAnew 22 = .ok (.istore_n 2, 1) := by decide +kernel
theorem dX8_accountAnew_23 : decode cX8_accountAnew 23 = .ok (.iconst 0, 1) := by decide +kernel
theorem dX8_accountAnew_24 : decode cX8_accountAnew 24 = .ok (.istore_n 3, 1) := by decide +kernel
theorem dX8_accountAnew_25 : decode cX8_accountAnew 25 = .ok (.iload_n 3, 1) := by decide +kernel
theorem dX8_accountAnew_26 : decode cX8_accountAnew 26 = .ok (.aload_n 0, 1) := by decide +kernel
theorem dX8_accountAnew_27 : decode cX8_accountAnew 27 = .ok (.getfield 62, 3) := by decide +kernel
theorem dX8_accountAnew_30 : decode cX8_accountAnew 30 = .ok (.if_icmp .ge 31, 3) := by decide +kernel
theorem dX8_accountAnew_33 : decode cX8_accountAnew 33 = .ok (.aload_n 0, 1) := by decide +kernel
theorem dX8_accountAnew_34 : decode cX8_accountAnew 34 = .ok (.iload_n 3, 1) := by decide +kernel
theorem dX8_accountAnew_35 : decode cX8_accountAnew 35 = .ok (.invokevirtual 227, 3) := by decide +kernel
theorem dX8_accountAnew_38 : decode cX8_accountAnew 38 = .ok (.astore 4, 2) := by decide +kernel
theorem dX8_accountAnew_40 : decode cX8_accountAnew 40 = .ok (.aload 4, 2) := by decide +kernel
theorem dX8_accountAnew_42 : decode cX8_accountAnew 42 = .ok (.ifnull 13, 3) := by decide +kernel
theorem dX8_accountAnew_45 : decode cX8_accountAnew 45 = .ok (.iload_n 2, 1) := by decide +kernel
theorem dX8_accountAnew_46 : decode cX8_accountAnew 46 = .ok (.aload_n 0, 1) := by decide +kernel
theorem dX8_accountAnew_47 : decode cX8_accountAnew 47 = .ok (.aload 4, 2) := by decide +kernel
theorem dX8_accountAnew_49 : decode cX8_accountAnew 49 = .ok (.iload_n 1, 1) := by decide +kernel
theorem dX8_accountAnew_50 : decode cX8_accountAnew 50 = .ok (.invokevirtual 322, 3) := by decide +kernel
theorem dX8_accountAnew_53 : decode cX8_accountAnew 53 = .ok (.iadd, 1) := by decide +kernel
theorem dX8_accountAnew_54 : decode cX8_accountAnew 54 = .ok (.istore_n 2, 1) := by decide +kernel
theorem dX8_accountAnew_55 : decode cX8_accountAnew 55 = .ok (.iinc 3 1, 3) := by decide +kernel
theorem dX8_accountAnew_58 : decode cX8_accountAnew 58 = .ok (.goto (-33), 3) := by decide +kernel
theorem dX8_accountAnew_61 : decode cX8_accountAnew 61 = .ok (.iload_n 2, 1) := by decide +kernel
theorem dX8_accountAnew_62 : decode cX8_accountAnew 62 = .ok (.ireturn, 1) := by decide +kernel
theorem dX8_messageAt_0 : decode cX8_messageAt 0 = .ok (.iload_n 1, 1) := by decide +kernel
theorem dX8_messageAt_1 : decode cX8_messageAt 1 = .ok (.iconst 0, 1) := by decide +kernel
theorem dX8_messageAt_2 : decode cX8_messageAt 2 = .ok (.aload_n 0, 1) := by decide +kernel
theorem dX8_messageAt_3 : decode cX8_messageAt 3 = .ok (.getfield 62, 3) := by decide +kernel
theorem dX8_messageAt_6 : decode cX8_messageAt 6 = .ok (.iconst 1, 1) := by decide +kernel
theorem dX8_messageAt_7 : decode cX8_messageAt 7 = .ok (.isub, 1) := by decide +kernel
theorem dX8_messageAt_8 : decode cX8_messageAt 8 = .ok (.invokestatic 68, 3) := by decide +kernel
theorem dX8_messageAt_11 : decode cX8_messageAt 11 = .ok (.ifCond .ne 12, 3) := by decide +kernel
theorem dX8_messageAt_14 : decode cX8_messageAt 14 = .ok (.iload_n 1, 1) := by decide +kernel
theorem dX8_messageAt_15 : decode cX8_messageAt 15 = .ok (.aload_n 0, 1) := by decide +kernel
theorem dX8_messageAt_16 : decode cX8_messageAt 16 = .ok (.getfield 54, 3) := by decide +kernel
theorem dX8_messageAt_19 : decode cX8_messageAt 19 = .ok (.arraylength, 1) := by decide +kernel
theorem dX8_messageAt_20 : decode cX8_messageAt 20 = .ok (.if_icmp .lt 7, 3) := by decide +kernel
theorem dX8_messageAt_23 : decode cX8_messageAt 23 = .ok (.aconst_null, 1) := by decide +kernel
theorem dX8_messageAt_24 : decode cX8_messageAt 24 = .ok (.goto 9, 3) := by decide +kernel
theorem dX8_messageAt_27 : decode cX8_messageAt 27 = .ok (.aload_n 0, 1) := by decide +kernel
theorem dX8_messageAt_28 : decode cX8_messageAt 28 = .ok (.getfield 54, 3) := by decide +kernel
theorem dX8_messageAt_31 : decode cX8_messageAt 31 = .ok (.iload_n 1, 1) := by decide +kernel
theorem dX8_messageAt_32 : decode cX8_messageAt 32 = .ok (.aaload, 1) := by decide +kernel
theorem dX8_messageAt_33 : decode cX8_messageAt 33 = .ok (.areturn, 1) := by decide +kernel
theorem dX8_countAtCable_0 : decode cX8_countAtCable 0 = .ok (.iconst 0, 1) := by decide +kernel
theorem dX8_countAtCable_1 : decode cX8_countAtCable 1 = .ok (.istore_n 2, 1) := by decide +kernel
theorem dX8_countAtCable_2 : decode cX8_countAtCable 2 = .ok (.iconst 0, 1) := by decide +kernel
theorem dX8_countAtCable_3 : decode cX8_countAtCable 3 = .ok (.istore_n 3, 1) := by decide +kernel
theorem dX8_countAtCable_4 : decode cX8_countAtCable 4 = .ok (.iload_n 3, 1) := by decide +kernel
theorem dX8_countAtCable_5 : decode cX8_countAtCable 5 = .ok (.aload_n 0, 1) := by decide +kernel
theorem dX8_countAtCable_6 : decode cX8_countAtCable 6 = .ok (.getfield 62, 3) := by decide +kernel
theorem dX8_countAtCable_9 : decode cX8_countAtCable 9 = .ok (.if_icmp .ge 33, 3) := by decide +kernel
theorem dX8_countAtCable_12 : decode cX8_countAtCable 12 = .ok (.aload_n 0, 1) := by decide +kernel
theorem dX8_countAtCable_13 : decode cX8_countAtCable 13 = .ok (.iload_n 3, 1) := by decide +kernel
theorem dX8_countAtCable_14 : decode cX8_countAtCable 14 = .ok (.invokevirtual 227, 3) := by decide +kernel
theorem dX8_countAtCable_17 : decode cX8_countAtCable 17 = .ok (.astore 4, 2) := by decide +kernel
theorem dX8_countAtCable_19 : decode cX8_countAtCable 19 = .ok (.aload 4, 2) := by decide +kernel
theorem dX8_countAtCable_21 : decode cX8_countAtCable 21 = .ok (.ifnull 15, 3) := by decide +kernel
theorem dX8_countAtCable_24 : decode cX8_countAtCable 24 = .ok (.aload 4, 2) := by decide +kernel
theorem dX8_countAtCable_26 : decode cX8_countAtCable 26 = .ok (.invokevirtual 281, 3) := by decide +kernel
theorem dX8_countAtCable_29 : decode cX8_countAtCable 29 = .ok (.iload_n 1, 1) := by decide +kernel
theorem dX8_countAtCable_30 : decode cX8_countAtCable 30 = .ok (.if_icmp .ne 6, 3) := by decide +kernel
theorem dX8_countAtCable_33 : decode cX8_countAtCable 33 = .ok (.iinc 2 1, 3) := by decide +kernel
theorem dX8_countAtCable_36 : decode cX8_countAtCable 36 = .ok (.iinc 3 1, 3) := by decide +kernel
theorem dX8_countAtCable_39 : decode cX8_countAtCable 39 = .ok (.goto (-35), 3) := by decide +kernel
theorem dX8_countAtCable_42 : decode cX8_countAtCable 42 = .ok (.iload_n 2, 1) := by decide +kernel
theorem dX8_countAtCable_43 : decode cX8_countAtCable 43 = .ok (.ireturn, 1) := by decide +kernel
theorem dX8_rulesAt_0 : decode cX8_rulesAt 0 = .ok (.aload_n 0, 1) := by decide +kernel
theorem dX8_rulesAt_1 : decode cX8_rulesAt 1 = .ok (.getfield 65, 3) := by decide +kernel
theorem dX8_rulesAt_4 : decode cX8_rulesAt 4 = .ok (.sipush 1440, 3) := by decide +kernel
theorem dX8_rulesAt_7 : decode cX8_rulesAt 7 = .ok (.idiv, 1) := by decide +kernel
theorem dX8_rulesAt_8 : decode cX8_rulesAt 8 = .ok (.istore_n 2, 1) := by decide +kernel
theorem dX8_rulesAt_9 : decode cX8_rulesAt 9 = .ok (.aload_n 0, 1) := by decide +kernel
theorem dX8_rulesAt_10 : decode cX8_rulesAt 10 = .ok (.getfield 58, 3) := by decide +kernel
theorem dX8_rulesAt_13 : decode cX8_rulesAt 13 = .ok (.iconst 1, 1) := by decide +kernel
theorem dX8_rulesAt_14 : decode cX8_rulesAt 14 = .ok (.isub, 1) := by decide +kernel
theorem dX8_rulesAt_15 : decode cX8_rulesAt 15 = .ok (.istore_n 3, 1) := by decide +kernel
theorem dX8_rulesAt_16 : decode cX8_rulesAt 16 = .ok (.iload_n 3, 1) := by decide +kernel
theorem dX8_rulesAt_17 : decode cX8_rulesAt 17 = .ok (.ifCond .lt 46, 3) := by decide +kernel
theorem dX8_rulesAt_20 : decode cX8_rulesAt 20 = .ok (.aload_n 0, 1) := by decide +kernel
theorem dX8_rulesAt_21 : decode cX8_rulesAt 21 = .ok (.getfield 48, 3) := by decide +kernel
theorem dX8_rulesAt_24 : decode cX8_rulesAt 24 = .ok (.iload_n 3, 1) := by decide +kernel
theorem dX8_rulesAt_25 : decode cX8_rulesAt 25 = .ok (.aaload, 1) := by decide +kernel
theorem dX8_rulesAt_26 : decode cX8_rulesAt 26 = .ok (.astore 4, 2) := by decide +kernel
theorem dX8_rulesAt_28 : decode cX8_rulesAt 28 = .ok (.aload 4, 2) := by decide +kernel
theorem dX8_rulesAt_30 : decode cX8_rulesAt 30 = .ok (.ifnull 27, 3) := by decide +kernel
theorem dX8_rulesAt_33 : decode cX8_rulesAt 33 = .ok (.aload 4, 2) := by decide +kernel
theorem dX8_rulesAt_35 : decode cX8_rulesAt 35 = .ok (.getfield 326, 3) := by decide +kernel
theorem dX8_rulesAt_38 : decode cX8_rulesAt 38 = .ok (.iload_n 2, 1) := by decide +kernel
theorem dX8_rulesAt_39 : decode cX8_rulesAt 39 = .ok (.if_icmp .gt 18, 3) := by decide +kernel
theorem dX8_rulesAt_42 : decode cX8_rulesAt 42 = .ok (.aload_n 1, 1) := by decide +kernel
theorem dX8_rulesAt_43 : decode cX8_rulesAt 43 = .ok (.aload 4, 2) := by decide +kernel
theorem dX8_rulesAt_45 : decode cX8_rulesAt 45 = .ok (.getfield 190, 3) := by decide +kernel
theorem dX8_rulesAt_48 : decode cX8_rulesAt 48 = .ok (.invokevirtual 329, 3) := by decide +kernel
theorem dX8_rulesAt_51 : decode cX8_rulesAt 51 = .ok (.ifCond .ne 6, 3) := by decide +kernel
theorem dX8_rulesAt_54 : decode cX8_rulesAt 54 = .ok (.aload 4, 2) := by decide +kernel
theorem dX8_rulesAt_56 : decode cX8_rulesAt 56 = .ok (.areturn, 1) := by decide +kernel
theorem dX8_rulesAt_57 : decode cX8_rulesAt 57 = .ok (.iinc 3 (-1), 3) := by decide +kernel
theorem dX8_rulesAt_60 : decode cX8_rulesAt 60 = .ok (.goto (-44), 3) := by decide +kernel
theorem dX8_rulesAt_63 : decode cX8_rulesAt 63 = .ok (.aload_n 0, 1) := by decide +kernel
theorem dX8_rulesAt_64 : decode cX8_rulesAt 64 = .ok (.getfield 44, 3) := by decide +kernel
theorem dX8_rulesAt_67 : decode cX8_rulesAt 67 = .ok (.areturn, 1) := by decide +kernel
theorem dX8_settle_0 : decode cX8_settle 0 = .ok (.aload_n 0, 1) := by decide +kernel
theorem dX8_settle_1 : decode cX8_settle 1 = .ok (.getfield 35, 3) := by decide +kernel
theorem dX8_settle_4 : decode cX8_settle 4 = .ok (.aload_n 1, 1) := by decide +kernel
theorem dX8_settle_5 : decode cX8_settle 5 = .ok (.getfield 332, 3) := by decide +kernel
theorem dX8_settle_8 : decode cX8_settle 8 = .ok (.invokevirtual 138, 3) := by decide +kernel
theorem dX8_settle_11 : decode cX8_settle 11 = .ok (.astore_n 2, 1) := by decide +kernel
theorem dX8_settle_12 : decode cX8_settle 12 = .ok (.aload_n 2, 1) := by decide +kernel
theorem dX8_settle_13 : decode cX8_settle 13 = .ok (.ifnull 16, 3) := by decide +kernel
theorem dX8_settle_16 : decode cX8_settle 16 = .ok (.aload_n 2, 1) := by decide +kernel
theorem dX8_settle_17 : decode cX8_settle 17 = .ok (.dup, 1) := by decide +kernel
theorem dX8_settle_18 : decode cX8_settle 18 = .ok (.getfield 319, 3) := by decide +kernel
theorem dX8_settle_21 : decode cX8_settle 21 = .ok (.aload_n 1, 1) := by decide +kernel
theorem dX8_settle_22 : decode cX8_settle 22 = .ok (.getfield 278, 3) := by decide +kernel
theorem dX8_settle_25 : decode cX8_settle 25 = .ok (.isub, 1) := by decide +kernel
theorem dX8_settle_26 : decode cX8_settle 26 = .ok (.putfield 319, 3) := by decide +kernel
theorem dX8_settle_29 : decode cX8_settle 29 = .ok (.iconst 0, 1) := by decide +kernel
theorem dX8_settle_30 : decode cX8_settle 30 = .ok (.istore_n 3, 1) := by decide +kernel
theorem dX8_settle_31 : decode cX8_settle 31 = .ok (.iload_n 3, 1) := by decide +kernel
theorem dX8_settle_32 : decode cX8_settle 32 = .ok (.aload_n 1, 1) := by decide +kernel
theorem dX8_settle_33 : decode cX8_settle 33 = .ok (.getfield 335, 3) := by decide +kernel
theorem dX8_settle_36 : decode cX8_settle 36 = .ok (.arraylength, 1) := by decide +kernel
theorem dX8_settle_37 : decode cX8_settle 37 = .ok (.if_icmp .ge 71, 3) := by decide +kernel
theorem dX8_settle_40 : decode cX8_settle 40 = .ok (.aload_n 0, 1) := by decide +kernel
theorem dX8_settle_41 : decode cX8_settle 41 = .ok (.getfield 35, 3) := by decide +kernel
theorem dX8_settle_44 : decode cX8_settle 44 = .ok (.aload_n 1, 1) := by decide +kernel
theorem dX8_settle_45 : decode cX8_settle 45 = .ok (.getfield 335, 3) := by decide +kernel
theorem dX8_settle_48 : decode cX8_settle 48 = .ok (.iload_n 3, 1) := by decide +kernel
theorem dX8_settle_49 : decode cX8_settle 49 = .ok (.iaload, 1) := by decide +kernel
theorem dX8_settle_50 : decode cX8_settle 50 = .ok (.invokevirtual 152, 3) := by decide +kernel
theorem dX8_settle_53 : decode cX8_settle 53 = .ok (.astore 4, 2) := by decide +kernel
theorem dX8_settle_55 : decode cX8_settle 55 = .ok (.aload 4, 2) := by decide +kernel
theorem dX8_settle_57 : decode cX8_settle 57 = .ok (.ifnonnull 7, 3) := by decide +kernel
theorem dX8_settle_60 : decode cX8_settle 60 = .ok (.aconst_null, 1) := by decide +kernel
theorem dX8_settle_61 : decode cX8_settle 61 = .ok (.goto 15, 3) := by decide +kernel
theorem dX8_settle_64 : decode cX8_settle 64 = .ok (.aload_n 0, 1) := by decide +kernel
theorem dX8_settle_65 : decode cX8_settle 65 = .ok (.getfield 35, 3) := by decide +kernel
theorem dX8_settle_68 : decode cX8_settle 68 = .ok (.aload 4, 2) := by decide +kernel
theorem dX8_settle_70 : decode cX8_settle 70 = .ok (.getfield 338, 3) := by decide +kernel
theorem dX8_settle_73 : decode cX8_settle 73 = .ok (.invokevirtual 138, 3) := by decide +kernel
theorem dX8_settle_76 : decode cX8_settle 76 = .ok (.astore 5, 2) := by decide +kernel
theorem dX8_settle_78 : decode cX8_settle 78 = .ok (.aload 5, 2) := by decide +kernel
theorem dX8_settle_80 : decode cX8_settle 80 = .ok (.ifnull 22, 3) := by decide +kernel
theorem dX8_settle_83 : decode cX8_settle 83 = .ok (.aload 5, 2) := by decide +kernel
theorem dX8_settle_85 : decode cX8_settle 85 = .ok (.dup, 1) := by decide +kernel
theorem dX8_settle_86 : decode cX8_settle 86 = .ok (.getfield 319, 3) := by decide +kernel
theorem dX8_settle_89 : decode cX8_settle 89 = .ok (.aload_n 1, 1) := by decide +kernel
theorem dX8_settle_90 : decode cX8_settle 90 = .ok (.aload 4, 2) := by decide +kernel
theorem dX8_settle_92 : decode cX8_settle 92 = .ok (.getfield 341, 3) := by decide +kernel
theorem dX8_settle_95 : decode cX8_settle 95 = .ok (.invokevirtual 344, 3) := by decide +kernel
theorem dX8_settle_98 : decode cX8_settle 98 = .ok (.iadd, 1) := by decide +kernel
theorem dX8_settle_99 : decode cX8_settle 99 = .ok (.putfield 319, 3) := by decide +kernel
theorem dX8_settle_102 : decode cX8_settle 102 = .ok (.iinc 3 1, 3) := by decide +kernel
theorem dX8_settle_105 : decode cX8_settle 105 = .ok (.goto (-74), 3) := by decide +kernel
theorem dX8_settle_108 : decode cX8_settle 108 = .ok (.return_, 1) := by decide +kernel
theorem dX8_shareIn_0 : decode cX8_shareIn 0 = .ok (.iconst 0, 1) := by decide +kernel
theorem dX8_shareIn_1 : decode cX8_shareIn 1 = .ok (.istore_n 3, 1) := by decide +kernel
theorem dX8_shareIn_2 : decode cX8_shareIn 2 = .ok (.iconst 0, 1) := by decide +kernel
theorem dX8_shareIn_3 : decode cX8_shareIn 3 = .ok (.istore 4, 2) := by decide +kernel
theorem dX8_shareIn_5 : decode cX8_shareIn 5 = .ok (.iload 4, 2) := by decide +kernel
theorem dX8_shareIn_7 : decode cX8_shareIn 7 = .ok (.aload_n 1, 1) := by decide +kernel
theorem dX8_shareIn_8 : decode cX8_shareIn 8 = .ok (.getfield 335, 3) := by decide +kernel
theorem dX8_shareIn_11 : decode cX8_shareIn 11 = .ok (.arraylength, 1) := by decide +kernel
theorem dX8_shareIn_12 : decode cX8_shareIn 12 = .ok (.if_icmp .ge 77, 3) := by decide +kernel
theorem dX8_shareIn_15 : decode cX8_shareIn 15 = .ok (.aload_n 0, 1) := by decide +kernel
theorem dX8_shareIn_16 : decode cX8_shareIn 16 = .ok (.getfield 35, 3) := by decide +kernel
theorem dX8_shareIn_19 : decode cX8_shareIn 19 = .ok (.aload_n 1, 1) := by decide +kernel
theorem dX8_shareIn_20 : decode cX8_shareIn 20 = .ok (.getfield 335, 3) := by decide +kernel
theorem dX8_shareIn_23 : decode cX8_shareIn 23 = .ok (.iload 4, 2) := by decide +kernel
theorem dX8_shareIn_25 : decode cX8_shareIn 25 = .ok (.iaload, 1) := by decide +kernel
theorem dX8_shareIn_26 : decode cX8_shareIn 26 = .ok (.invokevirtual 152, 3) := by decide +kernel
theorem dX8_shareIn_29 : decode cX8_shareIn 29 = .ok (.astore 5, 2) := by decide +kernel
theorem dX8_shareIn_31 : decode cX8_shareIn 31 = .ok (.aload 5, 2) := by decide +kernel
theorem dX8_shareIn_33 : decode cX8_shareIn 33 = .ok (.ifnonnull 7, 3) := by decide +kernel
theorem dX8_shareIn_36 : decode cX8_shareIn 36 = .ok (.iconst 0, 1) := by decide +kernel
theorem dX8_shareIn_37 : decode cX8_shareIn 37 = .ok (.goto 12, 3) := by decide +kernel
theorem dX8_shareIn_40 : decode cX8_shareIn 40 = .ok (.aload_n 1, 1) := by decide +kernel
theorem dX8_shareIn_41 : decode cX8_shareIn 41 = .ok (.aload 5, 2) := by decide +kernel
theorem dX8_shareIn_43 : decode cX8_shareIn 43 = .ok (.getfield 341, 3) := by decide +kernel
theorem dX8_shareIn_46 : decode cX8_shareIn 46 = .ok (.invokevirtual 344, 3) := by decide +kernel
theorem dX8_shareIn_49 : decode cX8_shareIn 49 = .ok (.istore 6, 2) := by decide +kernel
theorem dX8_shareIn_51 : decode cX8_shareIn 51 = .ok (.aload_n 1, 1) := by decide +kernel
theorem dX8_shareIn_52 : decode cX8_shareIn 52 = .ok (.getfield 332, 3) := by decide +kernel
theorem dX8_shareIn_55 : decode cX8_shareIn 55 = .ok (.iload_n 2, 1) := by decide +kernel
theorem dX8_shareIn_56 : decode cX8_shareIn 56 = .ok (.if_icmp .ne 8, 3) := by decide +kernel
theorem dX8_shareIn_59 : decode cX8_shareIn 59 = .ok (.iload_n 3, 1) := by decide +kernel
theorem dX8_shareIn_60 : decode cX8_shareIn 60 = .ok (.iload 6, 2) := by decide +kernel
theorem dX8_shareIn_62 : decode cX8_shareIn 62 = .ok (.isub, 1) := by decide +kernel
theorem dX8_shareIn_63 : decode cX8_shareIn 63 = .ok (.istore_n 3, 1) := by decide +kernel
theorem dX8_shareIn_64 : decode cX8_shareIn 64 = .ok (.aload 5, 2) := by decide +kernel
theorem dX8_shareIn_66 : decode cX8_shareIn 66 = .ok (.ifnull 17, 3) := by decide +kernel
theorem dX8_shareIn_69 : decode cX8_shareIn 69 = .ok (.aload 5, 2) := by decide +kernel
theorem dX8_shareIn_71 : decode cX8_shareIn 71 = .ok (.getfield 338, 3) := by decide +kernel
theorem dX8_shareIn_74 : decode cX8_shareIn 74 = .ok (.iload_n 2, 1) := by decide +kernel
theorem dX8_shareIn_75 : decode cX8_shareIn 75 = .ok (.if_icmp .ne 8, 3) := by decide +kernel
theorem dX8_shareIn_78 : decode cX8_shareIn 78 = .ok (.iload_n 3, 1) := by decide +kernel
theorem dX8_shareIn_79 : decode cX8_shareIn 79 = .ok (.iload 6, 2) := by decide +kernel
theorem dX8_shareIn_81 : decode cX8_shareIn 81 = .ok (.iadd, 1) := by decide +kernel
theorem dX8_shareIn_82 : decode cX8_shareIn 82 = .ok (.istore_n 3, 1) := by decide +kernel
theorem dX8_shareIn_83 : decode cX8_shareIn 83 = .ok (.iinc 4 1, 3) := by decide +kernel
theorem dX8_shareIn_86 : decode cX8_shareIn 86 = .ok (.goto (-81), 3) := by decide +kernel
theorem dX8_shareIn_89 : decode cX8_shareIn 89 = .ok (.iload_n 3, 1) := by decide +kernel
theorem dX8_shareIn_90 : decode cX8_shareIn 90 = .ok (.ireturn, 1) := by decide +kernel
theorem dX8_isAnyUnderway_0 : decode cX8_isAnyUnderway 0 = .ok (.iconst 0, 1) := by decide +kernel
theorem dX8_isAnyUnderway_1 : decode cX8_isAnyUnderway 1 = .ok (.istore_n 1, 1) := by decide +kernel
theorem dX8_isAnyUnderway_2 : decode cX8_isAnyUnderway 2 = .ok (.iload_n 1, 1) := by decide +kernel
theorem dX8_isAnyUnderway_3 : decode cX8_isAnyUnderway 3 = .ok (.aload_n 0, 1) := by decide +kernel
theorem dX8_isAnyUnderway_4 : decode cX8_isAnyUnderway 4 = .ok (.getfield 62, 3) := by decide +kernel
theorem dX8_isAnyUnderway_7 : decode cX8_isAnyUnderway 7 = .ok (.if_icmp .ge 28, 3) := by decide +kernel
theorem dX8_isAnyUnderway_10 : decode cX8_isAnyUnderway 10 = .ok (.aload_n 0, 1) := by decide +kernel
theorem dX8_isAnyUnderway_11 : decode cX8_isAnyUnderway 11 = .ok (.iload_n 1, 1) := by decide +kernel
theorem dX8_isAnyUnderway_12 : decode cX8_isAnyUnderway 12 = .ok (.invokevirtual 227, 3) := by decide +kernel
theorem dX8_isAnyUnderway_15 : decode cX8_isAnyUnderway 15 = .ok (.astore_n 2, 1) := by decide +kernel
theorem dX8_isAnyUnderway_16 : decode cX8_isAnyUnderway 16 = .ok (.aload_n 2, 1) := by decide +kernel
theorem dX8_isAnyUnderway_17 : decode cX8_isAnyUnderway 17 = .ok (.ifnull 12, 3) := by decide +kernel
theorem dX8_isAnyUnderway_20 : decode cX8_isAnyUnderway 20 = .ok (.aload_n 2, 1) := by decide +kernel
theorem dX8_isAnyUnderway_21 : decode cX8_isAnyUnderway 21 = .ok (.getfield 238, 3) := by decide +kernel
theorem dX8_isAnyUnderway_24 : decode cX8_isAnyUnderway 24 = .ok (.ifCond .ne 5, 3) := by decide +kernel
theorem dX8_isAnyUnderway_27 : decode cX8_isAnyUnderway 27 = .ok (.iconst 1, 1) := by decide +kernel
theorem dX8_isAnyUnderway_28 : decode cX8_isAnyUnderway 28 = .ok (.ireturn, 1) := by decide +kernel
theorem dX8_isAnyUnderway_29 : decode cX8_isAnyUnderway 29 = .ok (.iinc 1 1, 3) := by decide +kernel
theorem dX8_isAnyUnderway_32 : decode cX8_isAnyUnderway 32 = .ok (.goto (-30), 3) := by decide +kernel
theorem dX8_isAnyUnderway_35 : decode cX8_isAnyUnderway 35 = .ok (.iconst 0, 1) := by decide +kernel
theorem dX8_isAnyUnderway_36 : decode cX8_isAnyUnderway 36 = .ok (.ireturn, 1) := by decide +kernel
theorem dX8_carryMinute_0 : decode cX8_carryMinute 0 = .ok (.aload_n 0, 1) := by decide +kernel
theorem dX8_carryMinute_1 : decode cX8_carryMinute 1 = .ok (.getfield 35, 3) := by decide +kernel
theorem dX8_carryMinute_4 : decode cX8_carryMinute 4 = .ok (.invokevirtual 347, 3) := by decide +kernel
theorem dX8_carryMinute_7 : decode cX8_carryMinute 7 = .ok (.iconst 2, 1) := by decide +kernel
theorem dX8_carryMinute_8 : decode cX8_carryMinute 8 = .ok (.istore_n 1, 1) := by decide +kernel
theorem dX8_carryMinute_9 : decode cX8_carryMinute 9 = .ok (.iload_n 1, 1) := by decide +kernel
theorem dX8_carryMinute_10 : decode cX8_carryMinute 10 = .ok (.ifCond .lt 58, 3) := by decide +kernel
theorem dX8_carryMinute_13 : decode cX8_carryMinute 13 = .ok (.iconst 0, 1) := by decide +kernel
theorem dX8_carryMinute_14 : decode cX8_carryMinute 14 = .ok (.istore_n 2, 1) := by decide +kernel
theorem dX8_carryMinute_15 : decode cX8_carryMinute 15 = .ok (.iload_n 2, 1) := by decide +kernel
theorem dX8_carryMinute_16 : decode cX8_carryMinute 16 = .ok (.aload_n 0, 1) := by decide +kernel
theorem dX8_carryMinute_17 : decode cX8_carryMinute 17 = .ok (.getfield 62, 3) := by decide +kernel
theorem dX8_carryMinute_20 : decode cX8_carryMinute 20 = .ok (.if_icmp .ge 42, 3) := by decide +kernel
theorem dX8_carryMinute_23 : decode cX8_carryMinute 23 = .ok (.aload_n 0, 1) := by decide +kernel
theorem dX8_carryMinute_24 : decode cX8_carryMinute 24 = .ok (.iload_n 2, 1) := by decide +kernel
theorem dX8_carryMinute_25 : decode cX8_carryMinute 25 = .ok (.invokevirtual 227, 3) := by decide +kernel
theorem dX8_carryMinute_28 : decode cX8_carryMinute 28 = .ok (.astore_n 3, 1) := by decide +kernel
theorem dX8_carryMinute_29 : decode cX8_carryMinute 29 = .ok (.aload_n 3, 1) := by decide +kernel
theorem dX8_carryMinute_30 : decode cX8_carryMinute 30 = .ok (.ifnull 26, 3) := by decide +kernel
theorem dX8_carryMinute_33 : decode cX8_carryMinute 33 = .ok (.aload_n 3, 1) := by decide +kernel
theorem dX8_carryMinute_34 : decode cX8_carryMinute 34 = .ok (.getfield 350, 3) := by decide +kernel
theorem dX8_carryMinute_37 : decode cX8_carryMinute 37 = .ok (.iload_n 1, 1) := by decide +kernel
theorem dX8_carryMinute_38 : decode cX8_carryMinute 38 = .ok (.if_icmp .ne 18, 3) := by decide +kernel
theorem dX8_carryMinute_41 : decode cX8_carryMinute 41 = .ok (.aload_n 3, 1) := by decide +kernel
theorem dX8_carryMinute_42 : decode cX8_carryMinute 42 = .ok (.aload_n 0, 1) := by decide +kernel
theorem dX8_carryMinute_43 : decode cX8_carryMinute 43 = .ok (.getfield 35, 3) := by decide +kernel
theorem dX8_carryMinute_46 : decode cX8_carryMinute 46 = .ok (.aload_n 3, 1) := by decide +kernel
theorem dX8_carryMinute_47 : decode cX8_carryMinute 47 = .ok (.invokevirtual 281, 3) := by decide +kernel
theorem dX8_carryMinute_50 : decode cX8_carryMinute 50 = .ok (.invokevirtual 152, 3) := by decide +kernel
theorem dX8_carryMinute_53 : decode cX8_carryMinute 53 = .ok (.invokestatic 353, 3) := by decide +kernel
theorem dX8_carryMinute_56 : decode cX8_carryMinute 56 = .ok (.iinc 2 1, 3) := by decide +kernel
theorem dX8_carryMinute_59 : decode cX8_carryMinute 59 = .ok (.goto (-44), 3) := by decide +kernel
theorem dX8_carryMinute_62 : decode cX8_carryMinute 62 = .ok (.iinc 1 (-1), 3) := by decide +kernel
theorem dX8_carryMinute_65 : decode cX8_carryMinute 65 = .ok (.goto (-56), 3) := by decide +kernel
theorem dX8_carryMinute_68 : decode cX8_carryMinute 68 = .ok (.iconst 0, 1) := by decide +kernel
theorem dX8_carryMinute_69 : decode cX8_carryMinute 69 = .ok (.istore_n 1, 1) := by decide +kernel
theorem dX8_carryMinute_70 : decode cX8_carryMinute 70 = .ok (.iload_n 1, 1) := by decide +kernel
theorem dX8_carryMinute_71 : decode cX8_carryMinute 71 = .ok (.aload_n 0, 1) := by decide +kernel
theorem dX8_carryMinute_72 : decode cX8_carryMinute 72 = .ok (.getfield 62, 3) := by decide +kernel
theorem dX8_carryMinute_75 : decode cX8_carryMinute 75 = .ok (.if_icmp .ge 35, 3) := by decide +kernel
theorem dX8_carryMinute_78 : decode cX8_carryMinute 78 = .ok (.aload_n 0, 1) := by decide +kernel
theorem dX8_carryMinute_79 : decode cX8_carryMinute 79 = .ok (.iload_n 1, 1) := by decide +kernel
theorem dX8_carryMinute_80 : decode cX8_carryMinute 80 = .ok (.invokevirtual 227, 3) := by decide +kernel
theorem dX8_carryMinute_83 : decode cX8_carryMinute 83 = .ok (.astore_n 2, 1) := by decide +kernel
theorem dX8_carryMinute_84 : decode cX8_carryMinute 84 = .ok (.aload_n 2, 1) := by decide +kernel
theorem dX8_carryMinute_85 : decode cX8_carryMinute 85 = .ok (.ifnull 19, 3) := by decide +kernel
theorem dX8_carryMinute_88 : decode cX8_carryMinute 88 = .ok (.aload_n 0, 1) := by decide +kernel
theorem dX8_carryMinute_89 : decode cX8_carryMinute 89 = .ok (.aload_n 2, 1) := by decide +kernel
theorem dX8_carryMinute_90 : decode cX8_carryMinute 90 = .ok (.aload_n 0, 1) := by decide +kernel
theorem dX8_carryMinute_91 : decode cX8_carryMinute 91 = .ok (.getfield 35, 3) := by decide +kernel
theorem dX8_carryMinute_94 : decode cX8_carryMinute 94 = .ok (.aload_n 2, 1) := by decide +kernel
theorem dX8_carryMinute_95 : decode cX8_carryMinute 95 = .ok (.invokevirtual 281, 3) := by decide +kernel
theorem dX8_carryMinute_98 : decode cX8_carryMinute 98 = .ok (.invokevirtual 152, 3) := by decide +kernel
theorem dX8_carryMinute_101 : decode cX8_carryMinute 101 = .ok (.invokevirtual 357, 3) := by decide +kernel
theorem dX8_carryMinute_104 : decode cX8_carryMinute 104 = .ok (.iinc 1 1, 3) := by decide +kernel
theorem dX8_carryMinute_107 : decode cX8_carryMinute 107 = .ok (.goto (-37), 3) := by decide +kernel
theorem dX8_carryMinute_110 : decode cX8_carryMinute 110 = .ok (.return_, 1) := by decide +kernel
theorem dX8_carry_0 : decode cX8_carry 0 = .ok (.aload_n 1, 1) := by decide +kernel
theorem dX8_carry_1 : decode cX8_carry 1 = .ok (.ifnonnull 4, 3) := by decide +kernel
theorem dX8_carry_4 : decode cX8_carry 4 = .ok (.return_, 1) := by decide +kernel
theorem dX8_carry_5 : decode cX8_carry 5 = .ok (.aload_n 0, 1) := by decide +kernel
theorem dX8_carry_6 : decode cX8_carry 6 = .ok (.getfield 360, 3) := by decide +kernel
theorem dX8_carry_9 : decode cX8_carry 9 = .ok (.aload_n 1, 1) := by decide +kernel
theorem dX8_carry_10 : decode cX8_carry 10 = .ok (.getfield 363, 3) := by decide +kernel
theorem dX8_carry_13 : decode cX8_carry 13 = .ok (.invokestatic 366, 3) := by decide +kernel
theorem dX8_carry_16 : decode cX8_carry 16 = .ok (.istore_n 2, 1) := by decide +kernel
theorem dX8_carry_17 : decode cX8_carry 17 = .ok (.aload_n 0, 1) := by decide +kernel
theorem dX8_carry_18 : decode cX8_carry 18 = .ok (.dup, 1) := by decide +kernel
theorem dX8_carry_19 : decode cX8_carry 19 = .ok (.getfield 360, 3) := by decide +kernel
theorem dX8_carry_22 : decode cX8_carry 22 = .ok (.iload_n 2, 1) := by decide +kernel
theorem dX8_carry_23 : decode cX8_carry 23 = .ok (.isub, 1) := by decide +kernel
theorem dX8_carry_24 : decode cX8_carry 24 = .ok (.putfield 360, 3) := by decide +kernel
theorem dX8_carry_27 : decode cX8_carry 27 = .ok (.aload_n 1, 1) := by decide +kernel
theorem dX8_carry_28 : decode cX8_carry 28 = .ok (.dup, 1) := by decide +kernel
theorem dX8_carry_29 : decode cX8_carry 29 = .ok (.getfield 363, 3) := by decide +kernel
theorem dX8_carry_32 : decode cX8_carry 32 = .ok (.iload_n 2, 1) := by decide +kernel
theorem dX8_carry_33 : decode cX8_carry 33 = .ok (.isub, 1) := by decide +kernel
theorem dX8_carry_34 : decode cX8_carry 34 = .ok (.putfield 363, 3) := by decide +kernel
theorem dX8_carry_37 : decode cX8_carry 37 = .ok (.return_, 1) := by decide +kernel
theorem dX8_moveOn_0 : decode cX8_moveOn 0 = .ok (.aload_n 2, 1) := by decide +kernel
theorem dX8_moveOn_1 : decode cX8_moveOn 1 = .ok (.ifnull 10, 3) := by decide +kernel
theorem dX8_moveOn_4 : decode cX8_moveOn 4 = .ok (.aload_n 1, 1) := by decide +kernel
theorem dX8_moveOn_5 : decode cX8_moveOn 5 = .ok (.getfield 360, 3) := by decide +kernel
theorem dX8_moveOn_8 : decode cX8_moveOn 8 = .ok (.ifCond .le 4, 3) := by decide +kernel
theorem dX8_moveOn_11 : decode cX8_moveOn 11 = .ok (.return_, 1) := by decide +kernel
theorem dX8_moveOn_12 : decode cX8_moveOn 12 = .ok (.aload_n 1, 1) := by decide +kernel
theorem dX8_moveOn_13 : decode cX8_moveOn 13 = .ok (.dup, 1) := by decide +kernel
theorem dX8_moveOn_14 : decode cX8_moveOn 14 = .ok (.getfield 371, 3) := by decide +kernel
theorem dX8_moveOn_17 : decode cX8_moveOn 17 = .ok (.iconst 1, 1) := by decide +kernel
theorem dX8_moveOn_18 : decode cX8_moveOn 18 = .ok (.iadd, 1) := by decide +kernel
theorem dX8_moveOn_19 : decode cX8_moveOn 19 = .ok (.putfield 371, 3) := by decide +kernel
theorem dX8_moveOn_22 : decode cX8_moveOn 22 = .ok (.aload_n 0, 1) := by decide +kernel
theorem dX8_moveOn_23 : decode cX8_moveOn 23 = .ok (.aload_n 1, 1) := by decide +kernel
theorem dX8_moveOn_24 : decode cX8_moveOn 24 = .ok (.aload_n 2, 1) := by decide +kernel
theorem dX8_moveOn_25 : decode cX8_moveOn 25 = .ok (.aload_n 1, 1) := by decide +kernel
theorem dX8_moveOn_26 : decode cX8_moveOn 26 = .ok (.getfield 284, 3) := by decide +kernel
theorem dX8_moveOn_29 : decode cX8_moveOn 29 = .ok (.invokevirtual 374, 3) := by decide +kernel
theorem dX8_moveOn_32 : decode cX8_moveOn 32 = .ok (.invokevirtual 223, 3) := by decide +kernel
theorem dX8_moveOn_35 : decode cX8_moveOn 35 = .ok (.return_, 1) := by decide +kernel
theorem dX8_comeTo_0 : decode cX8_comeTo 0 = .ok (.aload_n 0, 1) := by decide +kernel
theorem dX8_comeTo_1 : decode cX8_comeTo 1 = .ok (.getfield 35, 3) := by decide +kernel
theorem dX8_comeTo_4 : decode cX8_comeTo 4 = .ok (.iload_n 2, 1) := by decide +kernel
theorem dX8_comeTo_5 : decode cX8_comeTo 5 = .ok (.invokevirtual 138, 3) := by decide +kernel
theorem dX8_comeTo_8 : decode cX8_comeTo 8 = .ok (.astore_n 3, 1) := by decide +kernel
theorem dX8_comeTo_9 : decode cX8_comeTo 9 = .ok (.aload_n 1, 1) := by decide +kernel
theorem dX8_comeTo_10 : decode cX8_comeTo 10 = .ok (.iload_n 2, 1) := by decide +kernel
theorem dX8_comeTo_11 : decode cX8_comeTo 11 = .ok (.putfield 284, 3) := by decide +kernel
theorem dX8_comeTo_14 : decode cX8_comeTo 14 = .ok (.aload_n 1, 1) := by decide +kernel
theorem dX8_comeTo_15 : decode cX8_comeTo 15 = .ok (.aload_n 1, 1) := by decide +kernel
theorem dX8_comeTo_16 : decode cX8_comeTo 16 = .ok (.getfield 277, 3) := by decide +kernel
theorem dX8_comeTo_19 : decode cX8_comeTo 19 = .ok (.putfield 360, 3) := by decide +kernel
theorem dX8_comeTo_22 : decode cX8_comeTo 22 = .ok (.aload_n 1, 1) := by decide +kernel
theorem dX8_comeTo_23 : decode cX8_comeTo 23 = .ok (.getfield 377, 3) := by decide +kernel
theorem dX8_comeTo_26 : decode cX8_comeTo 26 = .ok (.ifCond .eq 22, 3) := by decide +kernel
theorem dX8_comeTo_29 : decode cX8_comeTo 29 = .ok (.aload_n 3, 1) := by decide +kernel
theorem dX8_comeTo_30 : decode cX8_comeTo 30 = .ok (.ifnull 18, 3) := by decide +kernel
theorem dX8_comeTo_33 : decode cX8_comeTo 33 = .ok (.aload_n 3, 1) := by decide +kernel
theorem dX8_comeTo_34 : decode cX8_comeTo 34 = .ok (.getfield 167, 3) := by decide +kernel
theorem dX8_comeTo_37 : decode cX8_comeTo 37 = .ok (.ifCond .eq 11, 3) := by decide +kernel
theorem dX8_comeTo_40 : decode cX8_comeTo 40 = .ok (.aload_n 1, 1) := by decide +kernel
theorem dX8_comeTo_41 : decode cX8_comeTo 41 = .ok (.iconst 2, 1) := by decide +kernel
theorem dX8_comeTo_42 : decode cX8_comeTo 42 = .ok (.putfield 238, 3) := by decide +kernel
theorem dX8_comeTo_45 : decode cX8_comeTo 45 = .ok (.goto 20, 3) := by decide +kernel
theorem dX8_comeTo_48 : decode cX8_comeTo 48 = .ok (.aload_n 1, 1) := by decide +kernel
theorem dX8_comeTo_49 : decode cX8_comeTo 49 = .ok (.getfield 371, 3) := by decide +kernel
theorem dX8_comeTo_52 : decode cX8_comeTo 52 = .ok (.aload_n 1, 1) := by decide +kernel
theorem dX8_comeTo_53 : decode cX8_comeTo 53 = .ok (.getfield 335, 3) := by decide +kernel
theorem dX8_comeTo_56 : decode cX8_comeTo 56 = .ok (.arraylength, 1) := by decide +kernel
theorem dX8_comeTo_57 : decode cX8_comeTo 57 = .ok (.if_icmp .lt 8, 3) := by decide +kernel
theorem dX8_comeTo_60 : decode cX8_comeTo 60 = .ok (.aload_n 1, 1) := by decide +kernel
theorem dX8_comeTo_61 : decode cX8_comeTo 61 = .ok (.iconst 1, 1) := by decide +kernel
theorem dX8_comeTo_62 : decode cX8_comeTo 62 = .ok (.putfield 238, 3) := by decide +kernel
theorem dX8_comeTo_65 : decode cX8_comeTo 65 = .ok (.return_, 1) := by decide +kernel
theorem dX8_isOutside_0 : decode cX8_isOutside 0 = .ok (.iload_n 0, 1) := by decide +kernel
theorem dX8_isOutside_1 : decode cX8_isOutside 1 = .ok (.iload_n 1, 1) := by decide +kernel
theorem dX8_isOutside_2 : decode cX8_isOutside 2 = .ok (.if_icmp .lt 8, 3) := by decide +kernel
theorem dX8_isOutside_5 : decode cX8_isOutside 5 = .ok (.iload_n 0, 1) := by decide +kernel
theorem dX8_isOutside_6 : decode cX8_isOutside 6 = .ok (.iload_n 2, 1) := by decide +kernel
theorem dX8_isOutside_7 : decode cX8_isOutside 7 = .ok (.if_icmp .le 7, 3) := by decide +kernel
theorem dX8_isOutside_10 : decode cX8_isOutside 10 = .ok (.iconst 1, 1) := by decide +kernel
theorem dX8_isOutside_11 : decode cX8_isOutside 11 = .ok (.goto 4, 3) := by decide +kernel
theorem dX8_isOutside_14 : decode cX8_isOutside 14 = .ok (.iconst 0, 1) := by decide +kernel
theorem dX8_isOutside_15 : decode cX8_isOutside 15 = .ok (.ireturn, 1) := by decide +kernel
theorem dX8_roundedUp_0 : decode cX8_roundedUp 0 = .ok (.iload_n 1, 1) := by decide +kernel
theorem dX8_roundedUp_1 : decode cX8_roundedUp 1 = .ok (.ifCond .gt 7, 3) := by decide +kernel
theorem dX8_roundedUp_4 : decode cX8_roundedUp 4 = .ok (.iconst 0, 1) := by decide +kernel
theorem dX8_roundedUp_5 : decode cX8_roundedUp 5 = .ok (.goto 10, 3) := by decide +kernel
theorem dX8_roundedUp_8 : decode cX8_roundedUp 8 = .ok (.iload_n 0, 1) := by decide +kernel
theorem dX8_roundedUp_9 : decode cX8_roundedUp 9 = .ok (.iload_n 1, 1) := by decide +kernel
theorem dX8_roundedUp_10 : decode cX8_roundedUp 10 = .ok (.iadd, 1) := by decide +kernel
theorem dX8_roundedUp_11 : decode cX8_roundedUp 11 = .ok (.iconst 1, 1) := by decide +kernel
theorem dX8_roundedUp_12 : decode cX8_roundedUp 12 = .ok (.isub, 1) := by decide +kernel
theorem dX8_roundedUp_13 : decode cX8_roundedUp 13 = .ok (.iload_n 1, 1) := by decide +kernel
theorem dX8_roundedUp_14 : decode cX8_roundedUp 14 = .ok (.idiv, 1) := by decide +kernel
theorem dX8_roundedUp_15 : decode cX8_roundedUp 15 = .ok (.ireturn, 1) := by decide +kernel
theorem dX8_isCode_0 : decode cX8_isCode 0 = .ok (.iload_n 0, 1) := by decide +kernel
theorem dX8_isCode_1 : decode cX8_isCode 1 = .ok (.ifCond .lt 7, 3) := by decide +kernel
theorem dX8_isCode_4 : decode cX8_isCode 4 = .ok (.iconst 1, 1) := by decide +kernel
theorem dX8_isCode_5 : decode cX8_isCode 5 = .ok (.goto 4, 3) := by decide +kernel
theorem dX8_isCode_8 : decode cX8_isCode 8 = .ok (.iconst 0, 1) := by decide +kernel
theorem dX8_isCode_9 : decode cX8_isCode 9 = .ok (.ireturn, 1) := by decide +kernel
theorem dX8_plainOf_0 : decode cX8_plainOf 0 = .ok (.iconst (-1), 1) := by decide +kernel
theorem dX8_plainOf_1 : decode cX8_plainOf 1 = .ok (.iload_n 0, 1) := by decide +kernel
theorem dX8_plainOf_2 : decode cX8_plainOf 2 = .ok (.isub, 1) := by decide +kernel
theorem dX8_plainOf_3 : decode cX8_plainOf 3 = .ok (.iconst 1, 1) := by decide +kernel
theorem dX8_plainOf_4 : decode cX8_plainOf 4 = .ok (.isub, 1) := by decide +kernel
theorem dX8_plainOf_5 : decode cX8_plainOf 5 = .ok (.ireturn, 1) := by decide +kernel
theorem dX8_ideaOfPlain_0 : decode cX8_ideaOfPlain 0 = .ok (.iconst (-1), 1) := by decide +kernel
theorem dX8_ideaOfPlain_1 : decode cX8_ideaOfPlain 1 = .ok (.iload_n 0, 1) := by decide +kernel
theorem dX8_ideaOfPlain_2 : decode cX8_ideaOfPlain 2 = .ok (.isub, 1) := by decide +kernel
theorem dX8_ideaOfPlain_3 : decode cX8_ideaOfPlain 3 = .ok (.iconst 1, 1) := by decide +kernel
theorem dX8_ideaOfPlain_4 : decode cX8_ideaOfPlain 4 = .ok (.isub, 1) := by decide +kernel
theorem dX8_ideaOfPlain_5 : decode cX8_ideaOfPlain 5 = .ok (.ireturn, 1) := by decide +kernel
theorem dX8_weightOf_0 : decode cX8_weightOf 0 = .ok (.iconst 1, 1) := by decide +kernel
theorem dX8_weightOf_1 : decode cX8_weightOf 1 = .ok (.istore_n 1, 1) := by decide +kernel
theorem dX8_weightOf_2 : decode cX8_weightOf 2 = .ok (.iload_n 0, 1) := by decide +kernel
theorem dX8_weightOf_3 : decode cX8_weightOf 3 = .ok (.istore_n 2, 1) := by decide +kernel
theorem dX8_weightOf_4 : decode cX8_weightOf 4 = .ok (.iload_n 2, 1) := by decide +kernel
theorem dX8_weightOf_5 : decode cX8_weightOf 5 = .ok (.iconst 4, 1) := by decide +kernel
theorem dX8_weightOf_6 : decode cX8_weightOf 6 = .ok (.if_icmp .ge 14, 3) := by decide +kernel
theorem dX8_weightOf_9 : decode cX8_weightOf 9 = .ok (.iload_n 1, 1) := by decide +kernel
theorem dX8_weightOf_10 : decode cX8_weightOf 10 = .ok (.bipush 26, 2) := by decide +kernel
theorem dX8_weightOf_12 : decode cX8_weightOf 12 = .ok (.imul, 1) := by decide +kernel
theorem dX8_weightOf_13 : decode cX8_weightOf 13 = .ok (.istore_n 1, 1) := by decide +kernel
theorem dX8_weightOf_14 : decode cX8_weightOf 14 = .ok (.iinc 2 1, 3) := by decide +kernel
theorem dX8_weightOf_17 : decode cX8_weightOf 17 = .ok (.goto (-13), 3) := by decide +kernel
theorem dX8_weightOf_20 : decode cX8_weightOf 20 = .ok (.iload_n 1, 1) := by decide +kernel
theorem dX8_weightOf_21 : decode cX8_weightOf 21 = .ok (.ireturn, 1) := by decide +kernel
theorem dX8_letterOf_0 : decode cX8_letterOf 0 = .ok (.iload_n 1, 1) := by decide +kernel
theorem dX8_letterOf_1 : decode cX8_letterOf 1 = .ok (.invokestatic 380, 3) := by decide +kernel
theorem dX8_letterOf_4 : decode cX8_letterOf 4 = .ok (.istore_n 2, 1) := by decide +kernel
theorem dX8_letterOf_5 : decode cX8_letterOf 5 = .ok (.iload_n 2, 1) := by decide +kernel
theorem dX8_letterOf_6 : decode cX8_letterOf 6 = .ok (.ifCond .gt 7, 3) := by decide +kernel
theorem dX8_letterOf_9 : decode cX8_letterOf 9 = .ok (.iconst 0, 1) := by decide +kernel
theorem dX8_letterOf_10 : decode cX8_letterOf 10 = .ok (.goto 9, 3) := by decide +kernel
theorem dX8_letterOf_13 : decode cX8_letterOf 13 = .ok (.iload_n 0, 1) := by decide +kernel
theorem dX8_letterOf_14 : decode cX8_letterOf 14 = .ok (.iload_n 2, 1) := by decide +kernel
theorem dX8_letterOf_15 : decode cX8_letterOf 15 = .ok (.idiv, 1) := by decide +kernel
theorem dX8_letterOf_16 : decode cX8_letterOf 16 = .ok (.bipush 26, 2) := by decide +kernel
theorem dX8_letterOf_18 : decode cX8_letterOf 18 = .ok (.irem, 1) := by decide +kernel
theorem dX8_letterOf_19 : decode cX8_letterOf 19 = .ok (.ireturn, 1) := by decide +kernel
theorem dX8_withLetter_0 : decode cX8_withLetter 0 = .ok (.iload_n 0, 1) := by decide +kernel
theorem dX8_withLetter_1 : decode cX8_withLetter 1 = .ok (.iload_n 2, 1) := by decide +kernel
theorem dX8_withLetter_2 : decode cX8_withLetter 2 = .ok (.iload_n 0, 1) := by decide +kernel
theorem dX8_withLetter_3 : decode cX8_withLetter 3 = .ok (.iload_n 1, 1) := by decide +kernel
theorem dX8_withLetter_4 : decode cX8_withLetter 4 = .ok (.invokestatic 383, 3) := by decide +kernel
theorem dX8_withLetter_7 : decode cX8_withLetter 7 = .ok (.isub, 1) := by decide +kernel
theorem dX8_withLetter_8 : decode cX8_withLetter 8 = .ok (.iload_n 1, 1) := by decide +kernel
theorem dX8_withLetter_9 : decode cX8_withLetter 9 = .ok (.invokestatic 380, 3) := by decide +kernel
theorem dX8_withLetter_12 : decode cX8_withLetter 12 = .ok (.imul, 1) := by decide +kernel
theorem dX8_withLetter_13 : decode cX8_withLetter 13 = .ok (.iadd, 1) := by decide +kernel
theorem dX8_withLetter_14 : decode cX8_withLetter 14 = .ok (.ireturn, 1) := by decide +kernel
theorem dX8_vowelsIn_0 : decode cX8_vowelsIn 0 = .ok (.iconst 0, 1) := by decide +kernel
theorem dX8_vowelsIn_1 : decode cX8_vowelsIn 1 = .ok (.istore_n 1, 1) := by decide +kernel
theorem dX8_vowelsIn_2 : decode cX8_vowelsIn 2 = .ok (.iconst 0, 1) := by decide +kernel
theorem dX8_vowelsIn_3 : decode cX8_vowelsIn 3 = .ok (.istore_n 2, 1) := by decide +kernel
theorem dX8_vowelsIn_4 : decode cX8_vowelsIn 4 = .ok (.iload_n 2, 1) := by decide +kernel
theorem dX8_vowelsIn_5 : decode cX8_vowelsIn 5 = .ok (.iconst 5, 1) := by decide +kernel
theorem dX8_vowelsIn_6 : decode cX8_vowelsIn 6 = .ok (.if_icmp .ge 45, 3) := by decide +kernel
theorem dX8_vowelsIn_9 : decode cX8_vowelsIn 9 = .ok (.iload_n 0, 1) := by decide +kernel
theorem dX8_vowelsIn_10 : decode cX8_vowelsIn 10 = .ok (.iload_n 2, 1) := by decide +kernel
theorem dX8_vowelsIn_11 : decode cX8_vowelsIn 11 = .ok (.invokestatic 383, 3) := by decide +kernel
theorem dX8_vowelsIn_14 : decode cX8_vowelsIn 14 = .ok (.istore_n 3, 1) := by decide +kernel
theorem dX8_vowelsIn_15 : decode cX8_vowelsIn 15 = .ok (.iload_n 3, 1) := by decide +kernel
theorem dX8_vowelsIn_16 : decode cX8_vowelsIn 16 = .ok (.ifCond .eq 26, 3) := by decide +kernel
theorem dX8_vowelsIn_19 : decode cX8_vowelsIn 19 = .ok (.iload_n 3, 1) := by decide +kernel
theorem dX8_vowelsIn_20 : decode cX8_vowelsIn 20 = .ok (.iconst 4, 1) := by decide +kernel
theorem dX8_vowelsIn_21 : decode cX8_vowelsIn 21 = .ok (.if_icmp .eq 21, 3) := by decide +kernel
theorem dX8_vowelsIn_24 : decode cX8_vowelsIn 24 = .ok (.iload_n 3, 1) := by decide +kernel
theorem dX8_vowelsIn_25 : decode cX8_vowelsIn 25 = .ok (.bipush 8, 2) := by decide +kernel
theorem dX8_vowelsIn_27 : decode cX8_vowelsIn 27 = .ok (.if_icmp .eq 15, 3) := by decide +kernel
theorem dX8_vowelsIn_30 : decode cX8_vowelsIn 30 = .ok (.iload_n 3, 1) := by decide +kernel
theorem dX8_vowelsIn_31 : decode cX8_vowelsIn 31 = .ok (.bipush 14, 2) := by decide +kernel
theorem dX8_vowelsIn_33 : decode cX8_vowelsIn 33 = .ok (.if_icmp .eq 9, 3) := by decide +kernel
theorem dX8_vowelsIn_36 : decode cX8_vowelsIn 36 = .ok (.iload_n 3, 1) := by decide +kernel
theorem dX8_vowelsIn_37 : decode cX8_vowelsIn 37 = .ok (.bipush 20, 2) := by decide +kernel
theorem dX8_vowelsIn_39 : decode cX8_vowelsIn 39 = .ok (.if_icmp .ne 6, 3) := by decide +kernel
theorem dX8_vowelsIn_42 : decode cX8_vowelsIn 42 = .ok (.iinc 1 1, 3) := by decide +kernel
theorem dX8_vowelsIn_45 : decode cX8_vowelsIn 45 = .ok (.iinc 2 1, 3) := by decide +kernel
theorem dX8_vowelsIn_48 : decode cX8_vowelsIn 48 = .ok (.goto (-44), 3) := by decide +kernel
theorem dX8_vowelsIn_51 : decode cX8_vowelsIn 51 = .ok (.iload_n 1, 1) := by decide +kernel
theorem dX8_vowelsIn_52 : decode cX8_vowelsIn 52 = .ok (.ireturn, 1) := by decide +kernel
theorem dX8_partsOf_0 : decode cX8_partsOf 0 = .ok (.iconst 0, 1) := by decide +kernel
theorem dX8_partsOf_1 : decode cX8_partsOf 1 = .ok (.istore_n 2, 1) := by decide +kernel
theorem dX8_partsOf_2 : decode cX8_partsOf 2 = .ok (.iconst 0, 1) := by decide +kernel
theorem dX8_partsOf_3 : decode cX8_partsOf 3 = .ok (.istore_n 3, 1) := by decide +kernel
theorem dX8_partsOf_4 : decode cX8_partsOf 4 = .ok (.iload_n 3, 1) := by decide +kernel
theorem dX8_partsOf_5 : decode cX8_partsOf 5 = .ok (.iconst 5, 1) := by decide +kernel
theorem dX8_partsOf_6 : decode cX8_partsOf 6 = .ok (.if_icmp .ge 25, 3) := by decide +kernel
theorem dX8_partsOf_9 : decode cX8_partsOf 9 = .ok (.iload_n 0, 1) := by decide +kernel
theorem dX8_partsOf_10 : decode cX8_partsOf 10 = .ok (.iload_n 3, 1) := by decide +kernel
theorem dX8_partsOf_11 : decode cX8_partsOf 11 = .ok (.invokestatic 383, 3) := by decide +kernel
theorem dX8_partsOf_14 : decode cX8_partsOf 14 = .ok (.iload_n 1, 1) := by decide +kernel
theorem dX8_partsOf_15 : decode cX8_partsOf 15 = .ok (.iload_n 3, 1) := by decide +kernel
theorem dX8_partsOf_16 : decode cX8_partsOf 16 = .ok (.invokestatic 383, 3) := by decide +kernel
theorem dX8_partsOf_19 : decode cX8_partsOf 19 = .ok (.if_icmp .eq 6, 3) := by decide +kernel
theorem dX8_partsOf_22 : decode cX8_partsOf 22 = .ok (.iinc 2 1, 3) := by decide +kernel
theorem dX8_partsOf_25 : decode cX8_partsOf 25 = .ok (.iinc 3 1, 3) := by decide +kernel
theorem dX8_partsOf_28 : decode cX8_partsOf 28 = .ok (.goto (-24), 3) := by decide +kernel
theorem dX8_partsOf_31 : decode cX8_partsOf 31 = .ok (.iload_n 2, 1) := by decide +kernel
theorem dX8_partsOf_32 : decode cX8_partsOf 32 = .ok (.ireturn, 1) := by decide +kernel
theorem dX8_firstPart_0 : decode cX8_firstPart 0 = .ok (.iconst 0, 1) := by decide +kernel
theorem dX8_firstPart_1 : decode cX8_firstPart 1 = .ok (.istore_n 2, 1) := by decide +kernel
theorem dX8_firstPart_2 : decode cX8_firstPart 2 = .ok (.iload_n 2, 1) := by decide +kernel
theorem dX8_firstPart_3 : decode cX8_firstPart 3 = .ok (.iconst 5, 1) := by decide +kernel
theorem dX8_firstPart_4 : decode cX8_firstPart 4 = .ok (.if_icmp .ge 22, 3) := by decide +kernel
theorem dX8_firstPart_7 : decode cX8_firstPart 7 = .ok (.iload_n 0, 1) := by decide +kernel
theorem dX8_firstPart_8 : decode cX8_firstPart 8 = .ok (.iload_n 2, 1) := by decide +kernel
theorem dX8_firstPart_9 : decode cX8_firstPart 9 = .ok (.invokestatic 383, 3) := by decide +kernel
theorem dX8_firstPart_12 : decode cX8_firstPart 12 = .ok (.iload_n 1, 1) := by decide +kernel
theorem dX8_firstPart_13 : decode cX8_firstPart 13 = .ok (.iload_n 2, 1) := by decide +kernel
theorem dX8_firstPart_14 : decode cX8_firstPart 14 = .ok (.invokestatic 383, 3) := by decide +kernel
theorem dX8_firstPart_17 : decode cX8_firstPart 17 = .ok (.if_icmp .ne 9, 3) := by decide +kernel
theorem dX8_firstPart_20 : decode cX8_firstPart 20 = .ok (.iinc 2 1, 3) := by decide +kernel
theorem dX8_firstPart_23 : decode cX8_firstPart 23 = .ok (.goto (-21), 3) := by decide +kernel
theorem dX8_firstPart_26 : decode cX8_firstPart 26 = .ok (.iload_n 2, 1) := by decide +kernel
theorem dX8_firstPart_27 : decode cX8_firstPart 27 = .ok (.ireturn, 1) := by decide +kernel
theorem dX8_isTurned_0 : decode cX8_isTurned 0 = .ok (.iload_n 0, 1) := by decide +kernel
theorem dX8_isTurned_1 : decode cX8_isTurned 1 = .ok (.iload_n 1, 1) := by decide +kernel
theorem dX8_isTurned_2 : decode cX8_isTurned 2 = .ok (.invokestatic 316, 3) := by decide +kernel
theorem dX8_isTurned_5 : decode cX8_isTurned 5 = .ok (.istore_n 2, 1) := by decide +kernel
theorem dX8_isTurned_6 : decode cX8_isTurned 6 = .ok (.iload_n 2, 1) := by decide +kernel
theorem dX8_isTurned_7 : decode cX8_isTurned 7 = .ok (.iconst 4, 1) := by decide +kernel
theorem dX8_isTurned_8 : decode cX8_isTurned 8 = .ok (.if_icmp .ge 46, 3) := by decide +kernel
theorem dX8_isTurned_11 : decode cX8_isTurned 11 = .ok (.iload_n 0, 1) := by decide +kernel
theorem dX8_isTurned_12 : decode cX8_isTurned 12 = .ok (.iload_n 1, 1) := by decide +kernel
theorem dX8_isTurned_13 : decode cX8_isTurned 13 = .ok (.invokestatic 386, 3) := by decide +kernel
theorem dX8_isTurned_16 : decode cX8_isTurned 16 = .ok (.iconst 2, 1) := by decide +kernel
theorem dX8_isTurned_17 : decode cX8_isTurned 17 = .ok (.if_icmp .ne 37, 3) := by decide +kernel
theorem dX8_isTurned_20 : decode cX8_isTurned 20 = .ok (.iload_n 0, 1) := by decide +kernel
theorem dX8_isTurned_21 : decode cX8_isTurned 21 = .ok (.iload_n 2, 1) := by decide +kernel
theorem dX8_isTurned_22 : decode cX8_isTurned 22 = .ok (.invokestatic 383, 3) := by decide +kernel
theorem dX8_isTurned_25 : decode cX8_isTurned 25 = .ok (.iload_n 1, 1) := by decide +kernel
theorem dX8_isTurned_26 : decode cX8_isTurned 26 = .ok (.iload_n 2, 1) := by decide +kernel
theorem dX8_isTurned_27 : decode cX8_isTurned 27 = .ok (.iconst 1, 1) := by decide +kernel
theorem dX8_isTurned_28 : decode cX8_isTurned 28 = .ok (.iadd, 1) := by decide +kernel
theorem dX8_isTurned_29 : decode cX8_isTurned 29 = .ok (.invokestatic 383, 3) := by decide +kernel
theorem dX8_isTurned_32 : decode cX8_isTurned 32 = .ok (.if_icmp .ne 22, 3) := by decide +kernel
theorem dX8_isTurned_35 : decode cX8_isTurned 35 = .ok (.iload_n 0, 1) := by decide +kernel
theorem dX8_isTurned_36 : decode cX8_isTurned 36 = .ok (.iload_n 2, 1) := by decide +kernel
theorem dX8_isTurned_37 : decode cX8_isTurned 37 = .ok (.iconst 1, 1) := by decide +kernel
theorem dX8_isTurned_38 : decode cX8_isTurned 38 = .ok (.iadd, 1) := by decide +kernel
theorem dX8_isTurned_39 : decode cX8_isTurned 39 = .ok (.invokestatic 383, 3) := by decide +kernel
theorem dX8_isTurned_42 : decode cX8_isTurned 42 = .ok (.iload_n 1, 1) := by decide +kernel
theorem dX8_isTurned_43 : decode cX8_isTurned 43 = .ok (.iload_n 2, 1) := by decide +kernel
theorem dX8_isTurned_44 : decode cX8_isTurned 44 = .ok (.invokestatic 383, 3) := by decide +kernel
theorem dX8_isTurned_47 : decode cX8_isTurned 47 = .ok (.if_icmp .ne 7, 3) := by decide +kernel
theorem dX8_isTurned_50 : decode cX8_isTurned 50 = .ok (.iconst 1, 1) := by decide +kernel
theorem dX8_isTurned_51 : decode cX8_isTurned 51 = .ok (.goto 4, 3) := by decide +kernel
theorem dX8_isTurned_54 : decode cX8_isTurned 54 = .ok (.iconst 0, 1) := by decide +kernel
theorem dX8_isTurned_55 : decode cX8_isTurned 55 = .ok (.ireturn, 1) := by decide +kernel
end
section
theorem dX9_init_0 : decode cX9_init 0 = .ok (.aload_n 0, 1) := by decide +kernel
theorem dX9_init_1 : decode cX9_init 1 = .ok (.invokespecial 1, 3) := by decide +kernel
theorem dX9_init_4 : decode cX9_init 4 = .ok (.aload_n 0, 1) := by decide +kernel
theorem dX9_init_5 : decode cX9_init 5 = .ok (.bipush 30, 2) := by decide +kernel
theorem dX9_init_7 : decode cX9_init 7 = .ok (.newarray .int, 2) := by decide +kernel
theorem dX9_init_9 : decode cX9_init 9 = .ok (.putfield 7, 3) := by decide +kernel
theorem dX9_init_12 : decode cX9_init 12 = .ok (.aload_n 0, 1) := by decide +kernel
theorem dX9_init_13 : decode cX9_init 13 = .ok (.bipush 40, 2) := by decide +kernel
theorem dX9_init_15 : decode cX9_init 15 = .ok (.newarray .int, 2) := by decide +kernel
theorem dX9_init_17 : decode cX9_init 17 = .ok (.putfield 13, 3) := by decide +kernel
theorem dX9_init_20 : decode cX9_init 20 = .ok (.aload_n 0, 1) := by decide +kernel
theorem dX9_init_21 : decode cX9_init 21 = .ok (.sipush 160, 3) := by decide +kernel
theorem dX9_init_24 : decode cX9_init 24 = .ok (.newarray .int, 2) := by decide +kernel
theorem dX9_init_26 : decode cX9_init 26 = .ok (.putfield 16, 3) := by decide +kernel
theorem dX9_init_29 : decode cX9_init 29 = .ok (.aload_n 0, 1) := by decide +kernel
theorem dX9_init_30 : decode cX9_init 30 = .ok (.bipush 8, 2) := by decide +kernel
theorem dX9_init_32 : decode cX9_init 32 = .ok (.newarray .boolean, 2) := by decide +kernel
theorem dX9_init_34 : decode cX9_init 34 = .ok (.putfield 19, 3) := by decide +kernel
theorem dX9_init_37 : decode cX9_init 37 = .ok (.aload_n 0, 1) := by decide +kernel
theorem dX9_init_38 : decode cX9_init 38 = .ok (.bipush 8, 2) := by decide +kernel
theorem dX9_init_40 : decode cX9_init 40 = .ok (.newarray .int, 2) := by decide +kernel
theorem dX9_init_42 : decode cX9_init 42 = .ok (.putfield 23, 3) := by decide +kernel
theorem dX9_init_45 : decode cX9_init 45 = .ok (.aload_n 0, 1) := by decide +kernel
theorem dX9_init_46 : decode cX9_init 46 = .ok (.bipush 8, 2) := by decide +kernel
theorem dX9_init_48 : decode cX9_init 48 = .ok (.newarray .int, 2) := by decide +kernel
theorem dX9_init_50 : decode cX9_init 50 = .ok (.putfield 26, 3) := by decide +kernel
theorem dX9_init_53 : decode cX9_init 53 = .ok (.aload_n 0, 1) := by decide +kernel
theorem dX9_init_54 : decode cX9_init 54 = .ok (.bipush 8, 2) := by decide +kernel
theorem dX9_init_56 : decode cX9_init 56 = .ok (.newarray .int, 2) := by decide +kernel
theorem dX9_init_58 : decode cX9_init 58 = .ok (.putfield 29, 3) := by decide +kernel
theorem dX9_init_61 : decode cX9_init 61 = .ok (.aload_n 0, 1) := by decide +kernel
theorem dX9_init_62 : decode cX9_init 62 = .ok (.bipush 12, 2) := by decide +kernel
theorem dX9_init_64 : decode cX9_init 64 = .ok (.newarray .int, 2) := by decide +kernel
theorem dX9_init_66 : decode cX9_init 66 = .ok (.putfield 32, 3) := by decide +kernel
theorem dX9_init_69 : decode cX9_init 69 = .ok (.aload_n 0, 1) := by decide +kernel
theorem dX9_init_70 : decode cX9_init 70 = .ok (.bipush 12, 2) := by decide +kernel
theorem dX9_init_72 : decode cX9_init 72 = .ok (.newarray .int, 2) := by decide +kernel
theorem dX9_init_74 : decode cX9_init 74 = .ok (.putfield 35, 3) := by decide +kernel
theorem dX9_init_77 : decode cX9_init 77 = .ok (.aload_n 0, 1) := by decide +kernel
theorem dX9_init_78 : decode cX9_init 78 = .ok (.bipush 12, 2) := by decide +kernel
theorem dX9_init_80 : decode cX9_init 80 = .ok (.newarray .int, 2) := by decide +kernel
theorem dX9_init_82 : decode cX9_init 82 = .ok (.putfield 38, 3) := by decide +kernel
theorem dX9_init_85 : decode cX9_init 85 = .ok (.aload_n 0, 1) := by decide +kernel
theorem dX9_init_86 : decode cX9_init 86 = .ok (.bipush 12, 2) := by decide +kernel
theorem dX9_init_88 : decode cX9_init 88 = .ok (.newarray .int, 2) := by decide +kernel
theorem dX9_init_90 : decode cX9_init 90 = .ok (.putfield 41, 3) := by decide +kernel
theorem dX9_init_93 : decode cX9_init 93 = .ok (.aload_n 0, 1) := by decide +kernel
theorem dX9_init_94 : decode cX9_init 94 = .ok (.bipush 12, 2) := by decide +kernel
theorem dX9_init_96 : decode cX9_init 96 = .ok (.newarray .boolean, 2) := by decide +kernel
theorem dX9_init_98 : decode cX9_init 98 = .ok (.putfield 44, 3) := by decide +kernel
theorem dX9_init_101 : decode cX9_init 101 = .ok (.aload_n 0, 1) := by decide +kernel
theorem dX9_init_102 : decode cX9_init 102 = .ok (.bipush 13, 2) := by decide +kernel
theorem dX9_init_104 : decode cX9_init 104 = .ok (.newarray .int, 2) := by decide +kernel
theorem dX9_init_106 : decode cX9_init 106 = .ok (.putfield 47, 3) := by decide +kernel
theorem dX9_init_109 : decode cX9_init 109 = .ok (.aload_n 0, 1) := by decide +kernel
theorem dX9_init_110 : decode cX9_init 110 = .ok (.bipush 13, 2) := by decide +kernel
theorem dX9_init_112 : decode cX9_init 112 = .ok (.newarray .int, 2) := by decide +kernel
theorem dX9_init_114 : decode cX9_init 114 = .ok (.putfield 50, 3) := by decide +kernel
theorem dX9_init_117 : decode cX9_init 117 = .ok (.aload_n 0, 1) := by decide +kernel
theorem dX9_init_118 : decode cX9_init 118 = .ok (.bipush 13, 2) := by decide +kernel
theorem dX9_init_120 : decode cX9_init 120 = .ok (.newarray .int, 2) := by decide +kernel
theorem dX9_init_122 : decode cX9_init 122 = .ok (.putfield 53, 3) := by decide +kernel
theorem dX9_init_125 : decode cX9_init 125 = .ok (.aload_n 0, 1) := by decide +kernel
theorem dX9_init_126 : decode cX9_init 126 = .ok (.bipush 13, 2) := by decide +kernel
theorem dX9_init_128 : decode cX9_init 128 = .ok (.newarray .int, 2) := by decide +kernel
theorem dX9_init_130 : decode cX9_init 130 = .ok (.putfield 56, 3) := by decide +kernel
theorem dX9_init_133 : decode cX9_init 133 = .ok (.aload_n 0, 1) := by decide +kernel
theorem dX9_init_134 : decode cX9_init 134 = .ok (.bipush 24, 2) := by decide +kernel
theorem dX9_init_136 : decode cX9_init 136 = .ok (.newarray .int, 2) := by decide +kernel
theorem dX9_init_138 : decode cX9_init 138 = .ok (.putfield 59, 3) := by decide +kernel
theorem dX9_init_141 : decode cX9_init 141 = .ok (.aload_n 0, 1) := by decide +kernel
theorem dX9_init_142 : decode cX9_init 142 = .ok (.sipush 625, 3) := by decide +kernel
theorem dX9_init_145 : decode cX9_init 145 = .ok (.newarray .int, 2) := by decide +kernel
theorem dX9_init_147 : decode cX9_init 147 = .ok (.putfield 62, 3) := by decide +kernel
theorem dX9_init_150 : decode cX9_init 150 = .ok (.aload_n 0, 1) := by decide +kernel
theorem dX9_init_151 : decode cX9_init 151 = .ok (.bipush 24, 2) := by decide +kernel
theorem dX9_init_153 : decode cX9_init 153 = .ok (.newarray .int, 2) := by decide +kernel
theorem dX9_init_155 : decode cX9_init 155 = .ok (.putfield 65, 3) := by decide +kernel
theorem dX9_init_158 : decode cX9_init 158 = .ok (.aload_n 0, 1) := by decide +kernel
theorem dX9_init_159 : decode cX9_init 159 = .ok (.bipush 60, 2) := by decide +kernel
theorem dX9_init_161 : decode cX9_init 161 = .ok (.newarray .int, 2) := by decide +kernel
theorem dX9_init_163 : decode cX9_init 163 = .ok (.putfield 68, 3) := by decide +kernel
theorem dX9_init_166 : decode cX9_init 166 = .ok (.aload_n 0, 1) := by decide +kernel
theorem dX9_init_167 : decode cX9_init 167 = .ok (.bipush 60, 2) := by decide +kernel
theorem dX9_init_169 : decode cX9_init 169 = .ok (.newarray .int, 2) := by decide +kernel
theorem dX9_init_171 : decode cX9_init 171 = .ok (.putfield 71, 3) := by decide +kernel
theorem dX9_init_174 : decode cX9_init 174 = .ok (.aload_n 0, 1) := by decide +kernel
theorem dX9_init_175 : decode cX9_init 175 = .ok (.bipush 60, 2) := by decide +kernel
theorem dX9_init_177 : decode cX9_init 177 = .ok (.newarray .int, 2) := by decide +kernel
theorem dX9_init_179 : decode cX9_init 179 = .ok (.putfield 74, 3) := by decide +kernel
theorem dX9_init_182 : decode cX9_init 182 = .ok (.aload_n 0, 1) := by decide +kernel
theorem dX9_init_183 : decode cX9_init 183 = .ok (.bipush 60, 2) := by decide +kernel
theorem dX9_init_185 : decode cX9_init 185 = .ok (.newarray .int, 2) := by decide +kernel
theorem dX9_init_187 : decode cX9_init 187 = .ok (.putfield 77, 3) := by decide +kernel
theorem dX9_init_190 : decode cX9_init 190 = .ok (.aload_n 0, 1) := by decide +kernel
theorem dX9_init_191 : decode cX9_init 191 = .ok (.bipush 60, 2) := by decide +kernel
theorem dX9_init_193 : decode cX9_init 193 = .ok (.newarray .int, 2) := by decide +kernel
theorem dX9_init_195 : decode cX9_init 195 = .ok (.putfield 80, 3) := by decide +kernel
theorem dX9_init_198 : decode cX9_init 198 = .ok (.aload_n 0, 1) := by decide +kernel
theorem dX9_init_199 : decode cX9_init 199 = .ok (.bipush 60, 2) := by decide +kernel
theorem dX9_init_201 : decode cX9_init 201 = .ok (.newarray .int, 2) := by decide +kernel
theorem dX9_init_203 : decode cX9_init 203 = .ok (.putfield 83, 3) := by decide +kernel
theorem dX9_init_206 : decode cX9_init 206 = .ok (.aload_n 0, 1) := by decide +kernel
theorem dX9_init_207 : decode cX9_init 207 = .ok (.bipush 60, 2) := by decide +kernel
theorem dX9_init_209 : decode cX9_init 209 = .ok (.newarray .int, 2) := by decide +kernel
theorem dX9_init_211 : decode cX9_init 211 = .ok (.putfield 86, 3) := by decide +kernel
theorem dX9_init_214 : decode cX9_init 214 = .ok (.aload_n 0, 1) := by decide +kernel
theorem dX9_init_215 : decode cX9_init 215 = .ok (.bipush 60, 2) := by decide +kernel
theorem dX9_init_217 : decode cX9_init 217 = .ok (.newarray .int, 2) := by decide +kernel
theorem dX9_init_219 : decode cX9_init 219 = .ok (.putfield 89, 3) := by decide +kernel
theorem dX9_init_222 : decode cX9_init 222 = .ok (.aload_n 0, 1) := by decide +kernel
theorem dX9_init_223 : decode cX9_init 223 = .ok (.bipush 60, 2) := by decide +kernel
theorem dX9_init_225 : decode cX9_init 225 = .ok (.newarray .boolean, 2) := by decide +kernel
theorem dX9_init_227 : decode cX9_init 227 = .ok (.putfield 92, 3) := by decide +kernel
theorem dX9_init_230 : decode cX9_init 230 = .ok (.aload_n 0, 1) := by decide +kernel
theorem dX9_init_231 : decode cX9_init 231 = .ok (.sipush 1440, 3) := by decide +kernel
theorem dX9_init_234 : decode cX9_init 234 = .ok (.newarray .int, 2) := by decide +kernel
theorem dX9_init_236 : decode cX9_init 236 = .ok (.putfield 95, 3) := by decide +kernel
theorem dX9_init_239 : decode cX9_init 239 = .ok (.aload_n 0, 1) := by decide +kernel
theorem dX9_init_240 : decode cX9_init 240 = .ok (.sipush 1440, 3) := by decide +kernel
theorem dX9_init_243 : decode cX9_init 243 = .ok (.newarray .int, 2) := by decide +kernel
theorem dX9_init_245 : decode cX9_init 245 = .ok (.putfield 98, 3) := by decide +kernel
theorem dX9_init_248 : decode cX9_init 248 = .ok (.aload_n 0, 1) := by decide +kernel
theorem dX9_init_249 : decode cX9_init 249 = .ok (.sipush 480, 3) := by decide +kernel
theorem dX9_init_252 : decode cX9_init 252 = .ok (.newarray .int, 2) := by decide +kernel
theorem dX9_init_254 : decode cX9_init 254 = .ok (.putfield 101, 3) := by decide +kernel
theorem dX9_init_257 : decode cX9_init 257 = .ok (.aload_n 0, 1) := by decide +kernel
theorem dX9_init_258 : decode cX9_init 258 = .ok (.bipush 60, 2) := by decide +kernel
theorem dX9_init_260 : decode cX9_init 260 = .ok (.newarray .int, 2) := by decide +kernel
theorem dX9_init_262 : decode cX9_init 262 = .ok (.putfield 104, 3) := by decide +kernel
theorem dX9_init_265 : decode cX9_init 265 = .ok (.aload_n 0, 1) := by decide +kernel
theorem dX9_init_266 : decode cX9_init 266 = .ok (.bipush 60, 2) := by decide +kernel
theorem dX9_init_268 : decode cX9_init 268 = .ok (.newarray .int, 2) := by decide +kernel
theorem dX9_init_270 : decode cX9_init 270 = .ok (.putfield 107, 3) := by decide +kernel
theorem dX9_init_273 : decode cX9_init 273 = .ok (.aload_n 0, 1) := by decide +kernel
theorem dX9_init_274 : decode cX9_init 274 = .ok (.bipush 60, 2) := by decide +kernel
theorem dX9_init_276 : decode cX9_init 276 = .ok (.newarray .int, 2) := by decide +kernel
theorem dX9_init_278 : decode cX9_init 278 = .ok (.putfield 110, 3) := by decide +kernel
theorem dX9_init_281 : decode cX9_init 281 = .ok (.aload_n 0, 1) := by decide +kernel
theorem dX9_init_282 : decode cX9_init 282 = .ok (.bipush 60, 2) := by decide +kernel
theorem dX9_init_284 : decode cX9_init 284 = .ok (.newarray .boolean, 2) := by decide +kernel
theorem dX9_init_286 : decode cX9_init 286 = .ok (.putfield 113, 3) := by decide +kernel
theorem dX9_init_289 : decode cX9_init 289 = .ok (.aload_n 0, 1) := by decide +kernel
theorem dX9_init_290 : decode cX9_init 290 = .ok (.bipush 8, 2) := by decide +kernel
theorem dX9_init_292 : decode cX9_init 292 = .ok (.newarray .int, 2) := by decide +kernel
theorem dX9_init_294 : decode cX9_init 294 = .ok (.putfield 116, 3) := by decide +kernel
theorem dX9_init_297 : decode cX9_init 297 = .ok (.aload_n 0, 1) := by decide +kernel
theorem dX9_init_298 : decode cX9_init 298 = .ok (.bipush 8, 2) := by decide +kernel
theorem dX9_init_300 : decode cX9_init 300 = .ok (.newarray .int, 2) := by decide +kernel
theorem dX9_init_302 : decode cX9_init 302 = .ok (.putfield 119, 3) := by decide +kernel
theorem dX9_init_305 : decode cX9_init 305 = .ok (.aload_n 0, 1) := by decide +kernel
theorem dX9_init_306 : decode cX9_init 306 = .ok (.getfield 50, 3) := by decide +kernel
theorem dX9_init_309 : decode cX9_init 309 = .ok (.iconst 0, 1) := by decide +kernel
theorem dX9_init_310 : decode cX9_init 310 = .ok (.bipush 15, 2) := by decide +kernel
theorem dX9_init_312 : decode cX9_init 312 = .ok (.iastore, 1) := by decide +kernel
theorem dX9_init_313 : decode cX9_init 313 = .ok (.aload_n 0, 1) := by decide +kernel
theorem dX9_init_314 : decode cX9_init 314 = .ok (.getfield 53, 3) := by decide +kernel
theorem dX9_init_317 : decode cX9_init 317 = .ok (.iconst 0, 1) := by decide +kernel
theorem dX9_init_318 : decode cX9_init 318 = .ok (.bipush 10, 2) := by decide +kernel
theorem dX9_init_320 : decode cX9_init 320 = .ok (.iastore, 1) := by decide +kernel
theorem dX9_init_321 : decode cX9_init 321 = .ok (.return_, 1) := by decide +kernel
theorem dX9_thrown_0 : decode cX9_thrown 0 = .ok (.aload_n 0, 1) := by decide +kernel
theorem dX9_thrown_1 : decode cX9_thrown 1 = .ok (.getfield 122, 3) := by decide +kernel
theorem dX9_thrown_4 : decode cX9_thrown 4 = .ok (.ireturn, 1) := by decide +kernel
theorem dX9_fails_0 : decode cX9_fails 0 = .ok (.aload_n 0, 1) := by decide +kernel
theorem dX9_fails_1 : decode cX9_fails 1 = .ok (.iload_n 1, 1) := by decide +kernel
theorem dX9_fails_2 : decode cX9_fails 2 = .ok (.putfield 122, 3) := by decide +kernel
theorem dX9_fails_5 : decode cX9_fails 5 = .ok (.iconst 0, 1) := by decide +kernel
theorem dX9_fails_6 : decode cX9_fails 6 = .ok (.ireturn, 1) := by decide +kernel
theorem dX9_asks_0 : decode cX9_asks 0 = .ok (.aload_n 0, 1) := by decide +kernel
theorem dX9_asks_1 : decode cX9_asks 1 = .ok (.iload_n 1, 1) := by decide +kernel
theorem dX9_asks_2 : decode cX9_asks 2 = .ok (.ifCond .eq 7, 3) := by decide +kernel
theorem dX9_asks_5 : decode cX9_asks 5 = .ok (.iconst 0, 1) := by decide +kernel
theorem dX9_asks_6 : decode cX9_asks 6 = .ok (.goto 4, 3) := by decide +kernel
theorem dX9_asks_9 : decode cX9_asks 9 = .ok (.iconst 1, 1) := by decide +kernel
theorem dX9_asks_10 : decode cX9_asks 10 = .ok (.putfield 122, 3) := by decide +kernel
theorem dX9_asks_13 : decode cX9_asks 13 = .ok (.iload_n 1, 1) := by decide +kernel
theorem dX9_asks_14 : decode cX9_asks 14 = .ok (.ireturn, 1) := by decide +kernel
theorem dX9_in_0 : decode cX9_in 0 = .ok (.iload_n 0, 1) := by decide +kernel
theorem dX9_in_1 : decode cX9_in 1 = .ok (.iload_n 1, 1) := by decide +kernel
theorem dX9_in_2 : decode cX9_in 2 = .ok (.if_icmp .lt 12, 3) := by decide +kernel
theorem dX9_in_5 : decode cX9_in 5 = .ok (.iload_n 0, 1) := by decide +kernel
theorem dX9_in_6 : decode cX9_in 6 = .ok (.iload_n 2, 1) := by decide +kernel
theorem dX9_in_7 : decode cX9_in 7 = .ok (.if_icmp .gt 7, 3) := by decide +kernel
theorem dX9_in_10 : decode cX9_in 10 = .ok (.iconst 1, 1) := by decide +kernel
theorem dX9_in_11 : decode cX9_in 11 = .ok (.goto 4, 3) := by decide +kernel
theorem dX9_in_14 : decode cX9_in 14 = .ok (.iconst 0, 1) := by decide +kernel
theorem dX9_in_15 : decode cX9_in 15 = .ok (.ireturn, 1) := by decide +kernel
theorem dX9_isIdea_0 : decode cX9_isIdea 0 = .ok (.iload_n 1, 1) := by decide +kernel
theorem dX9_isIdea_1 : decode cX9_isIdea 1 = .ok (.iconst 0, 1) := by decide +kernel
theorem dX9_isIdea_2 : decode cX9_isIdea 2 = .ok (.aload_n 0, 1) := by decide +kernel
theorem dX9_isIdea_3 : decode cX9_isIdea 3 = .ok (.getfield 126, 3) := by decide +kernel
theorem dX9_isIdea_6 : decode cX9_isIdea 6 = .ok (.iconst 1, 1) := by decide +kernel
theorem dX9_isIdea_7 : decode cX9_isIdea 7 = .ok (.isub, 1) := by decide +kernel
theorem dX9_isIdea_8 : decode cX9_isIdea 8 = .ok (.invokestatic 129, 3) := by decide +kernel
theorem dX9_isIdea_11 : decode cX9_isIdea 11 = .ok (.ireturn, 1) := by decide +kernel
theorem dX9_isOffice_0 : decode cX9_isOffice 0 = .ok (.iload_n 1, 1) := by decide +kernel
theorem dX9_isOffice_1 : decode cX9_isOffice 1 = .ok (.iconst 0, 1) := by decide +kernel
theorem dX9_isOffice_2 : decode cX9_isOffice 2 = .ok (.aload_n 0, 1) := by decide +kernel
theorem dX9_isOffice_3 : decode cX9_isOffice 3 = .ok (.getfield 133, 3) := by decide +kernel
theorem dX9_isOffice_6 : decode cX9_isOffice 6 = .ok (.iconst 1, 1) := by decide +kernel
theorem dX9_isOffice_7 : decode cX9_isOffice 7 = .ok (.isub, 1) := by decide +kernel
theorem dX9_isOffice_8 : decode cX9_isOffice 8 = .ok (.invokestatic 129, 3) := by decide +kernel
theorem dX9_isOffice_11 : decode cX9_isOffice 11 = .ok (.ireturn, 1) := by decide +kernel
theorem dX9_isCable_0 : decode cX9_isCable 0 = .ok (.iload_n 1, 1) := by decide +kernel
theorem dX9_isCable_1 : decode cX9_isCable 1 = .ok (.iconst 0, 1) := by decide +kernel
theorem dX9_isCable_2 : decode cX9_isCable 2 = .ok (.aload_n 0, 1) := by decide +kernel
theorem dX9_isCable_3 : decode cX9_isCable 3 = .ok (.getfield 136, 3) := by decide +kernel
theorem dX9_isCable_6 : decode cX9_isCable 6 = .ok (.iconst 1, 1) := by decide +kernel
theorem dX9_isCable_7 : decode cX9_isCable 7 = .ok (.isub, 1) := by decide +kernel
theorem dX9_isCable_8 : decode cX9_isCable 8 = .ok (.invokestatic 129, 3) := by decide +kernel
theorem dX9_isCable_11 : decode cX9_isCable 11 = .ok (.ireturn, 1) := by decide +kernel
theorem dX9_isMessage_0 : decode cX9_isMessage 0 = .ok (.iload_n 1, 1) := by decide +kernel
theorem dX9_isMessage_1 : decode cX9_isMessage 1 = .ok (.iconst 0, 1) := by decide +kernel
theorem dX9_isMessage_2 : decode cX9_isMessage 2 = .ok (.aload_n 0, 1) := by decide +kernel
theorem dX9_isMessage_3 : decode cX9_isMessage 3 = .ok (.getfield 139, 3) := by decide +kernel
theorem dX9_isMessage_6 : decode cX9_isMessage 6 = .ok (.iconst 1, 1) := by decide +kernel
theorem dX9_isMessage_7 : decode cX9_isMessage 7 = .ok (.isub, 1) := by decide +kernel
theorem dX9_isMessage_8 : decode cX9_isMessage 8 = .ok (.invokestatic 129, 3) := by decide +kernel
theorem dX9_isMessage_11 : decode cX9_isMessage 11 = .ok (.ireturn, 1) := by decide +kernel
theorem dX9_isWord_0 : decode cX9_isWord 0 = .ok (.iload_n 0, 1) := by decide +kernel
theorem dX9_isWord_1 : decode cX9_isWord 1 = .ok (.iconst 0, 1) := by decide +kernel
theorem dX9_isWord_2 : decode cX9_isWord 2 = .ok (.ldc 142, 2) := by decide +kernel
theorem dX9_isWord_4 : decode cX9_isWord 4 = .ok (.invokestatic 129, 3) := by decide +kernel
theorem dX9_isWord_7 : decode cX9_isWord 7 = .ok (.ireturn, 1) := by decide +kernel
theorem dX9_letter_0 : decode cX9_letter 0 = .ok (.iload_n 0, 1) := by decide +kernel
theorem dX9_letter_1 : decode cX9_letter 1 = .ok (.istore_n 2, 1) := by decide +kernel
theorem dX9_letter_2 : decode cX9_letter 2 = .ok (.iload_n 1, 1) := by decide +kernel
theorem dX9_letter_3 : decode cX9_letter 3 = .ok (.istore_n 3, 1) := by decide +kernel
theorem dX9_letter_4 : decode cX9_letter 4 = .ok (.iload_n 3, 1) := by decide +kernel
theorem dX9_letter_5 : decode cX9_letter 5 = .ok (.iconst 4, 1) := by decide +kernel
theorem dX9_letter_6 : decode cX9_letter 6 = .ok (.if_icmp .ge 14, 3) := by decide +kernel
theorem dX9_letter_9 : decode cX9_letter 9 = .ok (.iload_n 2, 1) := by decide +kernel
theorem dX9_letter_10 : decode cX9_letter 10 = .ok (.bipush 26, 2) := by decide +kernel
theorem dX9_letter_12 : decode cX9_letter 12 = .ok (.idiv, 1) := by decide +kernel
theorem dX9_letter_13 : decode cX9_letter 13 = .ok (.istore_n 2, 1) := by decide +kernel
theorem dX9_letter_14 : decode cX9_letter 14 = .ok (.iinc 3 1, 3) := by decide +kernel
theorem dX9_letter_17 : decode cX9_letter 17 = .ok (.goto (-13), 3) := by decide +kernel
theorem dX9_letter_20 : decode cX9_letter 20 = .ok (.iload_n 2, 1) := by decide +kernel
theorem dX9_letter_21 : decode cX9_letter 21 = .ok (.bipush 26, 2) := by decide +kernel
theorem dX9_letter_23 : decode cX9_letter 23 = .ok (.irem, 1) := by decide +kernel
theorem dX9_letter_24 : decode cX9_letter 24 = .ok (.ireturn, 1) := by decide +kernel
theorem dX9_parts_0 : decode cX9_parts 0 = .ok (.iconst 0, 1) := by decide +kernel
theorem dX9_parts_1 : decode cX9_parts 1 = .ok (.istore_n 2, 1) := by decide +kernel
theorem dX9_parts_2 : decode cX9_parts 2 = .ok (.iconst 0, 1) := by decide +kernel
theorem dX9_parts_3 : decode cX9_parts 3 = .ok (.istore_n 3, 1) := by decide +kernel
theorem dX9_parts_4 : decode cX9_parts 4 = .ok (.iload_n 3, 1) := by decide +kernel
theorem dX9_parts_5 : decode cX9_parts 5 = .ok (.iconst 5, 1) := by decide +kernel
theorem dX9_parts_6 : decode cX9_parts 6 = .ok (.if_icmp .ge 30, 3) := by decide +kernel
theorem dX9_parts_9 : decode cX9_parts 9 = .ok (.iload_n 2, 1) := by decide +kernel
theorem dX9_parts_10 : decode cX9_parts 10 = .ok (.iload_n 0, 1) := by decide +kernel
theorem dX9_parts_11 : decode cX9_parts 11 = .ok (.iload_n 3, 1) := by decide +kernel
theorem dX9_parts_12 : decode cX9_parts 12 = .ok (.invokestatic 143, 3) := by decide +kernel
theorem dX9_parts_15 : decode cX9_parts 15 = .ok (.iload_n 1, 1) := by decide +kernel
theorem dX9_parts_16 : decode cX9_parts 16 = .ok (.iload_n 3, 1) := by decide +kernel
theorem dX9_parts_17 : decode cX9_parts 17 = .ok (.invokestatic 143, 3) := by decide +kernel
theorem dX9_parts_20 : decode cX9_parts 20 = .ok (.if_icmp .ne 7, 3) := by decide +kernel
theorem dX9_parts_23 : decode cX9_parts 23 = .ok (.iconst 0, 1) := by decide +kernel
theorem dX9_parts_24 : decode cX9_parts 24 = .ok (.goto 4, 3) := by decide +kernel
theorem dX9_parts_27 : decode cX9_parts 27 = .ok (.iconst 1, 1) := by decide +kernel
theorem dX9_parts_28 : decode cX9_parts 28 = .ok (.iadd, 1) := by decide +kernel
theorem dX9_parts_29 : decode cX9_parts 29 = .ok (.istore_n 2, 1) := by decide +kernel
theorem dX9_parts_30 : decode cX9_parts 30 = .ok (.iinc 3 1, 3) := by decide +kernel
theorem dX9_parts_33 : decode cX9_parts 33 = .ok (.goto (-29), 3) := by decide +kernel
theorem dX9_parts_36 : decode cX9_parts 36 = .ok (.iload_n 2, 1) := by decide +kernel
theorem dX9_parts_37 : decode cX9_parts 37 = .ok (.ireturn, 1) := by decide +kernel
theorem dX9_isTurned_0 : decode cX9_isTurned 0 = .ok (.iconst 0, 1) := by decide +kernel
theorem dX9_isTurned_1 : decode cX9_isTurned 1 = .ok (.istore_n 2, 1) := by decide +kernel
theorem dX9_isTurned_2 : decode cX9_isTurned 2 = .ok (.iconst 0, 1) := by decide +kernel
theorem dX9_isTurned_3 : decode cX9_isTurned 3 = .ok (.istore_n 3, 1) := by decide +kernel
theorem dX9_isTurned_4 : decode cX9_isTurned 4 = .ok (.iload_n 3, 1) := by decide +kernel
theorem dX9_isTurned_5 : decode cX9_isTurned 5 = .ok (.iconst 4, 1) := by decide +kernel
theorem dX9_isTurned_6 : decode cX9_isTurned 6 = .ok (.if_icmp .ge 83, 3) := by decide +kernel
theorem dX9_isTurned_9 : decode cX9_isTurned 9 = .ok (.iload_n 0, 1) := by decide +kernel
theorem dX9_isTurned_10 : decode cX9_isTurned 10 = .ok (.iload_n 3, 1) := by decide +kernel
theorem dX9_isTurned_11 : decode cX9_isTurned 11 = .ok (.invokestatic 143, 3) := by decide +kernel
theorem dX9_isTurned_14 : decode cX9_isTurned 14 = .ok (.iload_n 1, 1) := by decide +kernel
theorem dX9_isTurned_15 : decode cX9_isTurned 15 = .ok (.iload_n 3, 1) := by decide +kernel
theorem dX9_isTurned_16 : decode cX9_isTurned 16 = .ok (.iconst 1, 1) := by decide +kernel
theorem dX9_isTurned_17 : decode cX9_isTurned 17 = .ok (.iadd, 1) := by decide +kernel
theorem dX9_isTurned_18 : decode cX9_isTurned 18 = .ok (.invokestatic 143, 3) := by decide +kernel
theorem dX9_isTurned_21 : decode cX9_isTurned 21 = .ok (.if_icmp .ne 22, 3) := by decide +kernel
theorem dX9_isTurned_24 : decode cX9_isTurned 24 = .ok (.iload_n 0, 1) := by decide +kernel
theorem dX9_isTurned_25 : decode cX9_isTurned 25 = .ok (.iload_n 3, 1) := by decide +kernel
theorem dX9_isTurned_26 : decode cX9_isTurned 26 = .ok (.iconst 1, 1) := by decide +kernel
theorem dX9_isTurned_27 : decode cX9_isTurned 27 = .ok (.iadd, 1) := by decide +kernel
theorem dX9_isTurned_28 : decode cX9_isTurned 28 = .ok (.invokestatic 143, 3) := by decide +kernel
theorem dX9_isTurned_31 : decode cX9_isTurned 31 = .ok (.iload_n 1, 1) := by decide +kernel
theorem dX9_isTurned_32 : decode cX9_isTurned 32 = .ok (.iload_n 3, 1) := by decide +kernel
theorem dX9_isTurned_33 : decode cX9_isTurned 33 = .ok (.invokestatic 143, 3) := by decide +kernel
theorem dX9_isTurned_36 : decode cX9_isTurned 36 = .ok (.if_icmp .ne 7, 3) := by decide +kernel
theorem dX9_isTurned_39 : decode cX9_isTurned 39 = .ok (.iconst 1, 1) := by decide +kernel
theorem dX9_isTurned_40 : decode cX9_isTurned 40 = .ok (.goto 4, 3) := by decide +kernel
theorem dX9_isTurned_43 : decode cX9_isTurned 43 = .ok (.iconst 0, 1) := by decide +kernel
theorem dX9_isTurned_44 : decode cX9_isTurned 44 = .ok (.istore 4, 2) := by decide +kernel
theorem dX9_isTurned_46 : decode cX9_isTurned 46 = .ok (.iload_n 2, 1) := by decide +kernel
theorem dX9_isTurned_47 : decode cX9_isTurned 47 = .ok (.ifCond .ne 30, 3) := by decide +kernel
theorem dX9_isTurned_50 : decode cX9_isTurned 50 = .ok (.iload 4, 2) := by decide +kernel
theorem dX9_isTurned_52 : decode cX9_isTurned 52 = .ok (.ifCond .eq 29, 3) := by decide +kernel
theorem dX9_isTurned_55 : decode cX9_isTurned 55 = .ok (.iload_n 0, 1) := by decide +kernel
theorem dX9_isTurned_56 : decode cX9_isTurned 56 = .ok (.iload_n 1, 1) := by decide +kernel
theorem dX9_isTurned_57 : decode cX9_isTurned 57 = .ok (.invokestatic 147, 3) := by decide +kernel
theorem dX9_isTurned_60 : decode cX9_isTurned 60 = .ok (.iconst 2, 1) := by decide +kernel
theorem dX9_isTurned_61 : decode cX9_isTurned 61 = .ok (.if_icmp .ne 20, 3) := by decide +kernel
theorem dX9_isTurned_64 : decode cX9_isTurned 64 = .ok (.iload_n 0, 1) := by decide +kernel
theorem dX9_isTurned_65 : decode cX9_isTurned 65 = .ok (.iload_n 3, 1) := by decide +kernel
theorem dX9_isTurned_66 : decode cX9_isTurned 66 = .ok (.invokestatic 143, 3) := by decide +kernel
theorem dX9_isTurned_69 : decode cX9_isTurned 69 = .ok (.iload_n 1, 1) := by decide +kernel
theorem dX9_isTurned_70 : decode cX9_isTurned 70 = .ok (.iload_n 3, 1) := by decide +kernel
theorem dX9_isTurned_71 : decode cX9_isTurned 71 = .ok (.invokestatic 143, 3) := by decide +kernel
theorem dX9_isTurned_74 : decode cX9_isTurned 74 = .ok (.if_icmp .eq 7, 3) := by decide +kernel
theorem dX9_isTurned_77 : decode cX9_isTurned 77 = .ok (.iconst 1, 1) := by decide +kernel
theorem dX9_isTurned_78 : decode cX9_isTurned 78 = .ok (.goto 4, 3) := by decide +kernel
theorem dX9_isTurned_81 : decode cX9_isTurned 81 = .ok (.iconst 0, 1) := by decide +kernel
theorem dX9_isTurned_82 : decode cX9_isTurned 82 = .ok (.istore_n 2, 1) := by decide +kernel
theorem dX9_isTurned_83 : decode cX9_isTurned 83 = .ok (.iinc 3 1, 3) := by decide +kernel
theorem dX9_isTurned_86 : decode cX9_isTurned 86 = .ok (.goto (-82), 3) := by decide +kernel
theorem dX9_isTurned_89 : decode cX9_isTurned 89 = .ok (.iload_n 2, 1) := by decide +kernel
theorem dX9_isTurned_90 : decode cX9_isTurned 90 = .ok (.ireturn, 1) := by decide +kernel
theorem dX9_vowelsOf_0 : decode cX9_vowelsOf 0 = .ok (.iconst 0, 1) := by decide +kernel
theorem dX9_vowelsOf_1 : decode cX9_vowelsOf 1 = .ok (.istore_n 1, 1) := by decide +kernel
theorem dX9_vowelsOf_2 : decode cX9_vowelsOf 2 = .ok (.iconst 0, 1) := by decide +kernel
theorem dX9_vowelsOf_3 : decode cX9_vowelsOf 3 = .ok (.istore_n 2, 1) := by decide +kernel
theorem dX9_vowelsOf_4 : decode cX9_vowelsOf 4 = .ok (.iload_n 2, 1) := by decide +kernel
theorem dX9_vowelsOf_5 : decode cX9_vowelsOf 5 = .ok (.iconst 5, 1) := by decide +kernel
theorem dX9_vowelsOf_6 : decode cX9_vowelsOf 6 = .ok (.if_icmp .ge 56, 3) := by decide +kernel
theorem dX9_vowelsOf_9 : decode cX9_vowelsOf 9 = .ok (.iload_n 0, 1) := by decide +kernel
theorem dX9_vowelsOf_10 : decode cX9_vowelsOf 10 = .ok (.iload_n 2, 1) := by decide +kernel
theorem dX9_vowelsOf_11 : decode cX9_vowelsOf 11 = .ok (.invokestatic 143, 3) := by decide +kernel
theorem dX9_vowelsOf_14 : decode cX9_vowelsOf 14 = .ok (.bipush 97, 2) := by decide +kernel
theorem dX9_vowelsOf_16 : decode cX9_vowelsOf 16 = .ok (.iadd, 1) := by decide +kernel
theorem dX9_vowelsOf_17 : decode cX9_vowelsOf 17 = .ok (.istore_n 3, 1) := by decide +kernel
theorem dX9_vowelsOf_18 : decode cX9_vowelsOf 18 = .ok (.iload_n 1, 1) := by decide +kernel
theorem dX9_vowelsOf_19 : decode cX9_vowelsOf 19 = .ok (.iload_n 3, 1) := by decide +kernel
theorem dX9_vowelsOf_20 : decode cX9_vowelsOf 20 = .ok (.bipush 97, 2) := by decide +kernel
theorem dX9_vowelsOf_22 : decode cX9_vowelsOf 22 = .ok (.if_icmp .eq 27, 3) := by decide +kernel
theorem dX9_vowelsOf_25 : decode cX9_vowelsOf 25 = .ok (.iload_n 3, 1) := by decide +kernel
theorem dX9_vowelsOf_26 : decode cX9_vowelsOf 26 = .ok (.bipush 101, 2) := by decide +kernel
theorem dX9_vowelsOf_28 : decode cX9_vowelsOf 28 = .ok (.if_icmp .eq 21, 3) := by decide +kernel
theorem dX9_vowelsOf_31 : decode cX9_vowelsOf 31 = .ok (.iload_n 3, 1) := by decide +kernel
theorem dX9_vowelsOf_32 : decode cX9_vowelsOf 32 = .ok (.bipush 105, 2) := by decide +kernel
theorem dX9_vowelsOf_34 : decode cX9_vowelsOf 34 = .ok (.if_icmp .eq 15, 3) := by decide +kernel
theorem dX9_vowelsOf_37 : decode cX9_vowelsOf 37 = .ok (.iload_n 3, 1) := by decide +kernel
theorem dX9_vowelsOf_38 : decode cX9_vowelsOf 38 = .ok (.bipush 111, 2) := by decide +kernel
theorem dX9_vowelsOf_40 : decode cX9_vowelsOf 40 = .ok (.if_icmp .eq 9, 3) := by decide +kernel
theorem dX9_vowelsOf_43 : decode cX9_vowelsOf 43 = .ok (.iload_n 3, 1) := by decide +kernel
theorem dX9_vowelsOf_44 : decode cX9_vowelsOf 44 = .ok (.bipush 117, 2) := by decide +kernel
theorem dX9_vowelsOf_46 : decode cX9_vowelsOf 46 = .ok (.if_icmp .ne 7, 3) := by decide +kernel
theorem dX9_vowelsOf_49 : decode cX9_vowelsOf 49 = .ok (.iconst 1, 1) := by decide +kernel
theorem dX9_vowelsOf_50 : decode cX9_vowelsOf 50 = .ok (.goto 4, 3) := by decide +kernel
theorem dX9_vowelsOf_53 : decode cX9_vowelsOf 53 = .ok (.iconst 0, 1) := by decide +kernel
theorem dX9_vowelsOf_54 : decode cX9_vowelsOf 54 = .ok (.iadd, 1) := by decide +kernel
theorem dX9_vowelsOf_55 : decode cX9_vowelsOf 55 = .ok (.istore_n 1, 1) := by decide +kernel
theorem dX9_vowelsOf_56 : decode cX9_vowelsOf 56 = .ok (.iinc 2 1, 3) := by decide +kernel
theorem dX9_vowelsOf_59 : decode cX9_vowelsOf 59 = .ok (.goto (-55), 3) := by decide +kernel
theorem dX9_vowelsOf_62 : decode cX9_vowelsOf 62 = .ok (.iload_n 1, 1) := by decide +kernel
theorem dX9_vowelsOf_63 : decode cX9_vowelsOf 63 = .ok (.ireturn, 1) := by decide +kernel
theorem dX9_idea_0 : decode cX9_idea 0 = .ok (.aload_n 0, 1) := by decide +kernel
theorem dX9_idea_1 : decode cX9_idea 1 = .ok (.iload_n 1, 1) := by decide +kernel
theorem dX9_idea_2 : decode cX9_idea 2 = .ok (.iconst 1, 1) := by decide +kernel
theorem dX9_idea_3 : decode cX9_idea 3 = .ok (.bipush 20, 2) := by decide +kernel
theorem dX9_idea_5 : decode cX9_idea 5 = .ok (.invokestatic 129, 3) := by decide +kernel
theorem dX9_idea_8 : decode cX9_idea 8 = .ok (.invokevirtual 150, 3) := by decide +kernel
theorem dX9_idea_11 : decode cX9_idea 11 = .ok (.ifCond .ne 5, 3) := by decide +kernel
theorem dX9_idea_14 : decode cX9_idea 14 = .ok (.iconst 0, 1) := by decide +kernel
theorem dX9_idea_15 : decode cX9_idea 15 = .ok (.ireturn, 1) := by decide +kernel
theorem dX9_idea_16 : decode cX9_idea 16 = .ok (.aload_n 0, 1) := by decide +kernel
theorem dX9_idea_17 : decode cX9_idea 17 = .ok (.getfield 126, 3) := by decide +kernel
theorem dX9_idea_20 : decode cX9_idea 20 = .ok (.bipush 30, 2) := by decide +kernel
theorem dX9_idea_22 : decode cX9_idea 22 = .ok (.if_icmp .ne 9, 3) := by decide +kernel
theorem dX9_idea_25 : decode cX9_idea 25 = .ok (.aload_n 0, 1) := by decide +kernel
theorem dX9_idea_26 : decode cX9_idea 26 = .ok (.iconst 2, 1) := by decide +kernel
theorem dX9_idea_27 : decode cX9_idea 27 = .ok (.invokevirtual 154, 3) := by decide +kernel
theorem dX9_idea_30 : decode cX9_idea 30 = .ok (.ireturn, 1) := by decide +kernel
theorem dX9_idea_31 : decode cX9_idea 31 = .ok (.aload_n 0, 1) := by decide +kernel
theorem dX9_idea_32 : decode cX9_idea 32 = .ok (.getfield 7, 3) := by decide +kernel
theorem dX9_idea_35 : decode cX9_idea 35 = .ok (.aload_n 0, 1) := by decide +kernel
theorem dX9_idea_36 : decode cX9_idea 36 = .ok (.getfield 126, 3) := by decide +kernel
theorem dX9_idea_39 : decode cX9_idea 39 = .ok (.iload_n 1, 1) := by decide +kernel
theorem dX9_idea_40 : decode cX9_idea 40 = .ok (.iastore, 1) := by decide +kernel
theorem dX9_idea_41 : decode cX9_idea 41 = .ok (.aload_n 0, 1) := by decide +kernel
theorem dX9_idea_42 : decode cX9_idea 42 = .ok (.dup, 1) := by decide +kernel
theorem dX9_idea_43 : decode cX9_idea 43 = .ok (.getfield 126, 3) := by decide +kernel
theorem dX9_idea_46 : decode cX9_idea 46 = .ok (.iconst 1, 1) := by decide +kernel
theorem dX9_idea_47 : decode cX9_idea 47 = .ok (.iadd, 1) := by decide +kernel
theorem dX9_idea_48 : decode cX9_idea 48 = .ok (.putfield 126, 3) := by decide +kernel
theorem dX9_idea_51 : decode cX9_idea 51 = .ok (.aload_n 0, 1) := by decide +kernel
theorem dX9_idea_52 : decode cX9_idea 52 = .ok (.getfield 126, 3) := by decide +kernel
theorem dX9_idea_55 : decode cX9_idea 55 = .ok (.iconst 1, 1) := by decide +kernel
theorem dX9_idea_56 : decode cX9_idea 56 = .ok (.isub, 1) := by decide +kernel
theorem dX9_idea_57 : decode cX9_idea 57 = .ok (.ireturn, 1) := by decide +kernel
theorem dX9_isIdeaOrNone_0 : decode cX9_isIdeaOrNone 0 = .ok (.iload_n 1, 1) := by decide +kernel
theorem dX9_isIdeaOrNone_1 : decode cX9_isIdeaOrNone 1 = .ok (.iconst (-1), 1) := by decide +kernel
theorem dX9_isIdeaOrNone_2 : decode cX9_isIdeaOrNone 2 = .ok (.if_icmp .eq 11, 3) := by decide +kernel
theorem dX9_isIdeaOrNone_5 : decode cX9_isIdeaOrNone 5 = .ok (.aload_n 0, 1) := by decide +kernel
theorem dX9_isIdeaOrNone_6 : decode cX9_isIdeaOrNone 6 = .ok (.iload_n 1, 1) := by decide +kernel
theorem dX9_isIdeaOrNone_7 : decode cX9_isIdeaOrNone 7 = .ok (.invokevirtual 158, 3) := by decide +kernel
theorem dX9_isIdeaOrNone_10 : decode cX9_isIdeaOrNone 10 = .ok (.ifCond .eq 7, 3) := by decide +kernel
theorem dX9_isIdeaOrNone_13 : decode cX9_isIdeaOrNone 13 = .ok (.iconst 1, 1) := by decide +kernel
theorem dX9_isIdeaOrNone_14 : decode cX9_isIdeaOrNone 14 = .ok (.goto 4, 3) := by decide +kernel
theorem dX9_isIdeaOrNone_17 : decode cX9_isIdeaOrNone 17 = .ok (.iconst 0, 1) := by decide +kernel
theorem dX9_isIdeaOrNone_18 : decode cX9_isIdeaOrNone 18 = .ok (.ireturn, 1) := by decide +kernel
theorem dX9_entry_0 : decode cX9_entry 0 = .ok (.aload_n 0, 1) := by decide +kernel
theorem dX9_entry_1 : decode cX9_entry 1 = .ok (.aload_n 0, 1) := by decide +kernel
theorem dX9_entry_2 : decode cX9_entry 2 = .ok (.iload_n 2, 1) := by decide +kernel
theorem dX9_entry_3 : decode cX9_entry 3 = .ok (.invokevirtual 158, 3) := by decide +kernel
theorem dX9_entry_6 : decode cX9_entry 6 = .ok (.ifCond .eq 33, 3) := by decide +kernel
theorem dX9_entry_9 : decode cX9_entry 9 = .ok (.aload_n 0, 1) := by decide +kernel
theorem dX9_entry_10 : decode cX9_entry 10 = .ok (.iload_n 3, 1) := by decide +kernel
theorem dX9_entry_11 : decode cX9_entry 11 = .ok (.invokevirtual 162, 3) := by decide +kernel
theorem dX9_entry_14 : decode cX9_entry 14 = .ok (.ifCond .eq 25, 3) := by decide +kernel
theorem dX9_entry_17 : decode cX9_entry 17 = .ok (.aload_n 0, 1) := by decide +kernel
theorem dX9_entry_18 : decode cX9_entry 18 = .ok (.iload 4, 2) := by decide +kernel
theorem dX9_entry_20 : decode cX9_entry 20 = .ok (.invokevirtual 162, 3) := by decide +kernel
theorem dX9_entry_23 : decode cX9_entry 23 = .ok (.ifCond .eq 16, 3) := by decide +kernel
theorem dX9_entry_26 : decode cX9_entry 26 = .ok (.aload_n 0, 1) := by decide +kernel
theorem dX9_entry_27 : decode cX9_entry 27 = .ok (.iload 5, 2) := by decide +kernel
theorem dX9_entry_29 : decode cX9_entry 29 = .ok (.invokevirtual 162, 3) := by decide +kernel
theorem dX9_entry_32 : decode cX9_entry 32 = .ok (.ifCond .eq 7, 3) := by decide +kernel
theorem dX9_entry_35 : decode cX9_entry 35 = .ok (.iconst 1, 1) := by decide +kernel
theorem dX9_entry_36 : decode cX9_entry 36 = .ok (.goto 4, 3) := by decide +kernel
theorem dX9_entry_39 : decode cX9_entry 39 = .ok (.iconst 0, 1) := by decide +kernel
theorem dX9_entry_40 : decode cX9_entry 40 = .ok (.invokevirtual 150, 3) := by decide +kernel
theorem dX9_entry_43 : decode cX9_entry 43 = .ok (.ifCond .ne 5, 3) := by decide +kernel
theorem dX9_entry_46 : decode cX9_entry 46 = .ok (.iconst 0, 1) := by decide +kernel
theorem dX9_entry_47 : decode cX9_entry 47 = .ok (.ireturn, 1) := by decide +kernel
theorem dX9_entry_48 : decode cX9_entry 48 = .ok (.iload_n 1, 1) := by decide +kernel
theorem dX9_entry_49 : decode cX9_entry 49 = .ok (.invokestatic 165, 3) := by decide +kernel
theorem dX9_entry_52 : decode cX9_entry 52 = .ok (.ifCond .eq 26, 3) := by decide +kernel
theorem dX9_entry_55 : decode cX9_entry 55 = .ok (.iload_n 3, 1) := by decide +kernel
theorem dX9_entry_56 : decode cX9_entry 56 = .ok (.iconst (-1), 1) := by decide +kernel
theorem dX9_entry_57 : decode cX9_entry 57 = .ok (.if_icmp .ne 9, 3) := by decide +kernel
theorem dX9_entry_60 : decode cX9_entry 60 = .ok (.iload 4, 2) := by decide +kernel
theorem dX9_entry_62 : decode cX9_entry 62 = .ok (.iconst (-1), 1) := by decide +kernel
theorem dX9_entry_63 : decode cX9_entry 63 = .ok (.if_icmp .ne 15, 3) := by decide +kernel
theorem dX9_entry_66 : decode cX9_entry 66 = .ok (.iload 4, 2) := by decide +kernel
theorem dX9_entry_68 : decode cX9_entry 68 = .ok (.iconst (-1), 1) := by decide +kernel
theorem dX9_entry_69 : decode cX9_entry 69 = .ok (.if_icmp .ne 15, 3) := by decide +kernel
theorem dX9_entry_72 : decode cX9_entry 72 = .ok (.iload 5, 2) := by decide +kernel
theorem dX9_entry_74 : decode cX9_entry 74 = .ok (.iconst (-1), 1) := by decide +kernel
theorem dX9_entry_75 : decode cX9_entry 75 = .ok (.if_icmp .eq 9, 3) := by decide +kernel
theorem dX9_entry_78 : decode cX9_entry 78 = .ok (.aload_n 0, 1) := by decide +kernel
theorem dX9_entry_79 : decode cX9_entry 79 = .ok (.iconst 2, 1) := by decide +kernel
theorem dX9_entry_80 : decode cX9_entry 80 = .ok (.invokevirtual 154, 3) := by decide +kernel
theorem dX9_entry_83 : decode cX9_entry 83 = .ok (.ireturn, 1) := by decide +kernel
theorem dX9_entry_84 : decode cX9_entry 84 = .ok (.aload_n 0, 1) := by decide +kernel
theorem dX9_entry_85 : decode cX9_entry 85 = .ok (.getfield 168, 3) := by decide +kernel
theorem dX9_entry_88 : decode cX9_entry 88 = .ok (.bipush 40, 2) := by decide +kernel
theorem dX9_entry_90 : decode cX9_entry 90 = .ok (.if_icmp .ge 7, 3) := by decide +kernel
theorem dX9_entry_93 : decode cX9_entry 93 = .ok (.iconst 1, 1) := by decide +kernel
theorem dX9_entry_94 : decode cX9_entry 94 = .ok (.goto 4, 3) := by decide +kernel
theorem dX9_entry_97 : decode cX9_entry 97 = .ok (.iconst 0, 1) := by decide +kernel
theorem dX9_entry_98 : decode cX9_entry 98 = .ok (.istore 6, 2) := by decide +kernel
theorem dX9_entry_100 : decode cX9_entry 100 = .ok (.iconst 0, 1) := by decide +kernel
theorem dX9_entry_101 : decode cX9_entry 101 = .ok (.istore 7, 2) := by decide +kernel
theorem dX9_entry_103 : decode cX9_entry 103 = .ok (.iload 7, 2) := by decide +kernel
theorem dX9_entry_105 : decode cX9_entry 105 = .ok (.aload_n 0, 1) := by decide +kernel
theorem dX9_entry_106 : decode cX9_entry 106 = .ok (.getfield 168, 3) := by decide +kernel
theorem dX9_entry_109 : decode cX9_entry 109 = .ok (.if_icmp .ge 108, 3) := by decide +kernel
theorem dX9_entry_112 : decode cX9_entry 112 = .ok (.aload_n 0, 1) := by decide +kernel
theorem dX9_entry_113 : decode cX9_entry 113 = .ok (.getfield 16, 3) := by decide +kernel
theorem dX9_entry_116 : decode cX9_entry 116 = .ok (.iconst 4, 1) := by decide +kernel
theorem dX9_entry_117 : decode cX9_entry 117 = .ok (.iload 7, 2) := by decide +kernel
theorem dX9_entry_119 : decode cX9_entry 119 = .ok (.imul, 1) := by decide +kernel
theorem dX9_entry_120 : decode cX9_entry 120 = .ok (.iaload, 1) := by decide +kernel
theorem dX9_entry_121 : decode cX9_entry 121 = .ok (.iload_n 2, 1) := by decide +kernel
theorem dX9_entry_122 : decode cX9_entry 122 = .ok (.if_icmp .ne 54, 3) := by decide +kernel
theorem dX9_entry_125 : decode cX9_entry 125 = .ok (.aload_n 0, 1) := by decide +kernel
theorem dX9_entry_126 : decode cX9_entry 126 = .ok (.getfield 16, 3) := by decide +kernel
theorem dX9_entry_129 : decode cX9_entry 129 = .ok (.iconst 4, 1) := by decide +kernel
theorem dX9_entry_130 : decode cX9_entry 130 = .ok (.iload 7, 2) := by decide +kernel
theorem dX9_entry_132 : decode cX9_entry 132 = .ok (.imul, 1) := by decide +kernel
theorem dX9_entry_133 : decode cX9_entry 133 = .ok (.iconst 1, 1) := by decide +kernel
theorem dX9_entry_134 : decode cX9_entry 134 = .ok (.iadd, 1) := by decide +kernel
theorem dX9_entry_135 : decode cX9_entry 135 = .ok (.iaload, 1) := by decide +kernel
theorem dX9_entry_136 : decode cX9_entry 136 = .ok (.iload_n 3, 1) := by decide +kernel
theorem dX9_entry_137 : decode cX9_entry 137 = .ok (.if_icmp .ne 39, 3) := by decide +kernel
theorem dX9_entry_140 : decode cX9_entry 140 = .ok (.aload_n 0, 1) := by decide +kernel
theorem dX9_entry_141 : decode cX9_entry 141 = .ok (.getfield 16, 3) := by decide +kernel
theorem dX9_entry_144 : decode cX9_entry 144 = .ok (.iconst 4, 1) := by decide +kernel
theorem dX9_entry_145 : decode cX9_entry 145 = .ok (.iload 7, 2) := by decide +kernel
theorem dX9_entry_147 : decode cX9_entry 147 = .ok (.imul, 1) := by decide +kernel
theorem dX9_entry_148 : decode cX9_entry 148 = .ok (.iconst 2, 1) := by decide +kernel
theorem dX9_entry_149 : decode cX9_entry 149 = .ok (.iadd, 1) := by decide +kernel
theorem dX9_entry_150 : decode cX9_entry 150 = .ok (.iaload, 1) := by decide +kernel
theorem dX9_entry_151 : decode cX9_entry 151 = .ok (.iload 4, 2) := by decide +kernel
theorem dX9_entry_153 : decode cX9_entry 153 = .ok (.if_icmp .ne 23, 3) := by decide +kernel
theorem dX9_entry_156 : decode cX9_entry 156 = .ok (.aload_n 0, 1) := by decide +kernel
theorem dX9_entry_157 : decode cX9_entry 157 = .ok (.getfield 16, 3) := by decide +kernel
theorem dX9_entry_160 : decode cX9_entry 160 = .ok (.iconst 4, 1) := by decide +kernel
theorem dX9_entry_161 : decode cX9_entry 161 = .ok (.iload 7, 2) := by decide +kernel
theorem dX9_entry_163 : decode cX9_entry 163 = .ok (.imul, 1) := by decide +kernel
theorem dX9_entry_164 : decode cX9_entry 164 = .ok (.iconst 3, 1) := by decide +kernel
theorem dX9_entry_165 : decode cX9_entry 165 = .ok (.iadd, 1) := by decide +kernel
theorem dX9_entry_166 : decode cX9_entry 166 = .ok (.iaload, 1) := by decide +kernel
theorem dX9_entry_167 : decode cX9_entry 167 = .ok (.iload 5, 2) := by decide +kernel
theorem dX9_entry_169 : decode cX9_entry 169 = .ok (.if_icmp .ne 7, 3) := by decide +kernel
theorem dX9_entry_172 : decode cX9_entry 172 = .ok (.iconst 1, 1) := by decide +kernel
theorem dX9_entry_173 : decode cX9_entry 173 = .ok (.goto 4, 3) := by decide +kernel
theorem dX9_entry_176 : decode cX9_entry 176 = .ok (.iconst 0, 1) := by decide +kernel
theorem dX9_entry_177 : decode cX9_entry 177 = .ok (.istore 8, 2) := by decide +kernel
theorem dX9_entry_179 : decode cX9_entry 179 = .ok (.iload 6, 2) := by decide +kernel
theorem dX9_entry_181 : decode cX9_entry 181 = .ok (.ifCond .eq 27, 3) := by decide +kernel
theorem dX9_entry_184 : decode cX9_entry 184 = .ok (.iload 8, 2) := by decide +kernel
theorem dX9_entry_186 : decode cX9_entry 186 = .ok (.ifCond .ne 22, 3) := by decide +kernel
theorem dX9_entry_189 : decode cX9_entry 189 = .ok (.aload_n 0, 1) := by decide +kernel
theorem dX9_entry_190 : decode cX9_entry 190 = .ok (.getfield 13, 3) := by decide +kernel
theorem dX9_entry_193 : decode cX9_entry 193 = .ok (.iload 7, 2) := by decide +kernel
theorem dX9_entry_195 : decode cX9_entry 195 = .ok (.iaload, 1) := by decide +kernel
theorem dX9_entry_196 : decode cX9_entry 196 = .ok (.iload_n 1, 1) := by decide +kernel
theorem dX9_entry_197 : decode cX9_entry 197 = .ok (.invokestatic 147, 3) := by decide +kernel
theorem dX9_entry_200 : decode cX9_entry 200 = .ok (.iconst 1, 1) := by decide +kernel
theorem dX9_entry_201 : decode cX9_entry 201 = .ok (.if_icmp .le 7, 3) := by decide +kernel
theorem dX9_entry_204 : decode cX9_entry 204 = .ok (.iconst 1, 1) := by decide +kernel
theorem dX9_entry_205 : decode cX9_entry 205 = .ok (.goto 4, 3) := by decide +kernel
theorem dX9_entry_208 : decode cX9_entry 208 = .ok (.iconst 0, 1) := by decide +kernel
theorem dX9_entry_209 : decode cX9_entry 209 = .ok (.istore 6, 2) := by decide +kernel
theorem dX9_entry_211 : decode cX9_entry 211 = .ok (.iinc 7 1, 3) := by decide +kernel
theorem dX9_entry_214 : decode cX9_entry 214 = .ok (.goto (-111), 3) := by decide +kernel
theorem dX9_entry_217 : decode cX9_entry 217 = .ok (.iload 6, 2) := by decide +kernel
theorem dX9_entry_219 : decode cX9_entry 219 = .ok (.ifCond .ne 9, 3) := by decide +kernel
theorem dX9_entry_222 : decode cX9_entry 222 = .ok (.aload_n 0, 1) := by decide +kernel
theorem dX9_entry_223 : decode cX9_entry 223 = .ok (.iconst 3, 1) := by decide +kernel
theorem dX9_entry_224 : decode cX9_entry 224 = .ok (.invokevirtual 154, 3) := by decide +kernel
theorem dX9_entry_227 : decode cX9_entry 227 = .ok (.ireturn, 1) := by decide +kernel
theorem dX9_entry_228 : decode cX9_entry 228 = .ok (.aload_n 0, 1) := by decide +kernel
theorem dX9_entry_229 : decode cX9_entry 229 = .ok (.getfield 13, 3) := by decide +kernel
theorem dX9_entry_232 : decode cX9_entry 232 = .ok (.aload_n 0, 1) := by decide +kernel
theorem dX9_entry_233 : decode cX9_entry 233 = .ok (.getfield 168, 3) := by decide +kernel
theorem dX9_entry_236 : decode cX9_entry 236 = .ok (.iload_n 1, 1) := by decide +kernel
theorem dX9_entry_237 : decode cX9_entry 237 = .ok (.iastore, 1) := by decide +kernel
theorem dX9_entry_238 : decode cX9_entry 238 = .ok (.aload_n 0, 1) := by decide +kernel
theorem dX9_entry_239 : decode cX9_entry 239 = .ok (.getfield 16, 3) := by decide +kernel
theorem dX9_entry_242 : decode cX9_entry 242 = .ok (.iconst 4, 1) := by decide +kernel
theorem dX9_entry_243 : decode cX9_entry 243 = .ok (.aload_n 0, 1) := by decide +kernel
theorem dX9_entry_244 : decode cX9_entry 244 = .ok (.getfield 168, 3) := by decide +kernel
theorem dX9_entry_247 : decode cX9_entry 247 = .ok (.imul, 1) := by decide +kernel
theorem dX9_entry_248 : decode cX9_entry 248 = .ok (.iload_n 2, 1) := by decide +kernel
theorem dX9_entry_249 : decode cX9_entry 249 = .ok (.iastore, 1) := by decide +kernel
theorem dX9_entry_250 : decode cX9_entry 250 = .ok (.aload_n 0, 1) := by decide +kernel
theorem dX9_entry_251 : decode cX9_entry 251 = .ok (.getfield 16, 3) := by decide +kernel
theorem dX9_entry_254 : decode cX9_entry 254 = .ok (.iconst 4, 1) := by decide +kernel
theorem dX9_entry_255 : decode cX9_entry 255 = .ok (.aload_n 0, 1) := by decide +kernel
theorem dX9_entry_256 : decode cX9_entry 256 = .ok (.getfield 168, 3) := by decide +kernel
theorem dX9_entry_259 : decode cX9_entry 259 = .ok (.imul, 1) := by decide +kernel
theorem dX9_entry_260 : decode cX9_entry 260 = .ok (.iconst 1, 1) := by decide +kernel
theorem dX9_entry_261 : decode cX9_entry 261 = .ok (.iadd, 1) := by decide +kernel
theorem dX9_entry_262 : decode cX9_entry 262 = .ok (.iload_n 3, 1) := by decide +kernel
theorem dX9_entry_263 : decode cX9_entry 263 = .ok (.iastore, 1) := by decide +kernel
theorem dX9_entry_264 : decode cX9_entry 264 = .ok (.aload_n 0, 1) := by decide +kernel
theorem dX9_entry_265 : decode cX9_entry 265 = .ok (.getfield 16, 3) := by decide +kernel
theorem dX9_entry_268 : decode cX9_entry 268 = .ok (.iconst 4, 1) := by decide +kernel
theorem dX9_entry_269 : decode cX9_entry 269 = .ok (.aload_n 0, 1) := by decide +kernel
theorem dX9_entry_270 : decode cX9_entry 270 = .ok (.getfield 168, 3) := by decide +kernel
theorem dX9_entry_273 : decode cX9_entry 273 = .ok (.imul, 1) := by decide +kernel
theorem dX9_entry_274 : decode cX9_entry 274 = .ok (.iconst 2, 1) := by decide +kernel
theorem dX9_entry_275 : decode cX9_entry 275 = .ok (.iadd, 1) := by decide +kernel
theorem dX9_entry_276 : decode cX9_entry 276 = .ok (.iload 4, 2) := by decide +kernel
theorem dX9_entry_278 : decode cX9_entry 278 = .ok (.iastore, 1) := by decide +kernel
theorem dX9_entry_279 : decode cX9_entry 279 = .ok (.aload_n 0, 1) := by decide +kernel
theorem dX9_entry_280 : decode cX9_entry 280 = .ok (.getfield 16, 3) := by decide +kernel
theorem dX9_entry_283 : decode cX9_entry 283 = .ok (.iconst 4, 1) := by decide +kernel
theorem dX9_entry_284 : decode cX9_entry 284 = .ok (.aload_n 0, 1) := by decide +kernel
theorem dX9_entry_285 : decode cX9_entry 285 = .ok (.getfield 168, 3) := by decide +kernel
theorem dX9_entry_288 : decode cX9_entry 288 = .ok (.imul, 1) := by decide +kernel
theorem dX9_entry_289 : decode cX9_entry 289 = .ok (.iconst 3, 1) := by decide +kernel
theorem dX9_entry_290 : decode cX9_entry 290 = .ok (.iadd, 1) := by decide +kernel
theorem dX9_entry_291 : decode cX9_entry 291 = .ok (.iload 5, 2) := by decide +kernel
theorem dX9_entry_293 : decode cX9_entry 293 = .ok (.iastore, 1) := by decide +kernel
theorem dX9_entry_294 : decode cX9_entry 294 = .ok (.aload_n 0, 1) := by decide +kernel
theorem dX9_entry_295 : decode cX9_entry 295 = .ok (.dup, 1) := by decide +kernel
theorem dX9_entry_296 : decode cX9_entry 296 = .ok (.getfield 168, 3) := by decide +kernel
theorem dX9_entry_299 : decode cX9_entry 299 = .ok (.iconst 1, 1) := by decide +kernel
theorem dX9_entry_300 : decode cX9_entry 300 = .ok (.iadd, 1) := by decide +kernel
theorem dX9_entry_301 : decode cX9_entry 301 = .ok (.putfield 168, 3) := by decide +kernel
theorem dX9_entry_304 : decode cX9_entry 304 = .ok (.aload_n 0, 1) := by decide +kernel
theorem dX9_entry_305 : decode cX9_entry 305 = .ok (.getfield 168, 3) := by decide +kernel
theorem dX9_entry_308 : decode cX9_entry 308 = .ok (.iconst 1, 1) := by decide +kernel
theorem dX9_entry_309 : decode cX9_entry 309 = .ok (.isub, 1) := by decide +kernel
theorem dX9_entry_310 : decode cX9_entry 310 = .ok (.ireturn, 1) := by decide +kernel
theorem dX9_isInBook_0 : decode cX9_isInBook 0 = .ok (.iconst 0, 1) := by decide +kernel
theorem dX9_isInBook_1 : decode cX9_isInBook 1 = .ok (.istore_n 2, 1) := by decide +kernel
theorem dX9_isInBook_2 : decode cX9_isInBook 2 = .ok (.iconst 0, 1) := by decide +kernel
theorem dX9_isInBook_3 : decode cX9_isInBook 3 = .ok (.istore_n 3, 1) := by decide +kernel
theorem dX9_isInBook_4 : decode cX9_isInBook 4 = .ok (.iload_n 3, 1) := by decide +kernel
theorem dX9_isInBook_5 : decode cX9_isInBook 5 = .ok (.aload_n 0, 1) := by decide +kernel
theorem dX9_isInBook_6 : decode cX9_isInBook 6 = .ok (.getfield 168, 3) := by decide +kernel
theorem dX9_isInBook_9 : decode cX9_isInBook 9 = .ok (.if_icmp .ge 29, 3) := by decide +kernel
theorem dX9_isInBook_12 : decode cX9_isInBook 12 = .ok (.iload_n 2, 1) := by decide +kernel
theorem dX9_isInBook_13 : decode cX9_isInBook 13 = .ok (.ifCond .ne 13, 3) := by decide +kernel
theorem dX9_isInBook_16 : decode cX9_isInBook 16 = .ok (.aload_n 0, 1) := by decide +kernel
theorem dX9_isInBook_17 : decode cX9_isInBook 17 = .ok (.getfield 13, 3) := by decide +kernel
theorem dX9_isInBook_20 : decode cX9_isInBook 20 = .ok (.iload_n 3, 1) := by decide +kernel
theorem dX9_isInBook_21 : decode cX9_isInBook 21 = .ok (.iaload, 1) := by decide +kernel
theorem dX9_isInBook_22 : decode cX9_isInBook 22 = .ok (.iload_n 1, 1) := by decide +kernel
theorem dX9_isInBook_23 : decode cX9_isInBook 23 = .ok (.if_icmp .ne 7, 3) := by decide +kernel
theorem dX9_isInBook_26 : decode cX9_isInBook 26 = .ok (.iconst 1, 1) := by decide +kernel
theorem dX9_isInBook_27 : decode cX9_isInBook 27 = .ok (.goto 4, 3) := by decide +kernel
theorem dX9_isInBook_30 : decode cX9_isInBook 30 = .ok (.iconst 0, 1) := by decide +kernel
theorem dX9_isInBook_31 : decode cX9_isInBook 31 = .ok (.istore_n 2, 1) := by decide +kernel
theorem dX9_isInBook_32 : decode cX9_isInBook 32 = .ok (.iinc 3 1, 3) := by decide +kernel
theorem dX9_isInBook_35 : decode cX9_isInBook 35 = .ok (.goto (-31), 3) := by decide +kernel
theorem dX9_isInBook_38 : decode cX9_isInBook 38 = .ok (.iload_n 2, 1) := by decide +kernel
theorem dX9_isInBook_39 : decode cX9_isInBook 39 = .ok (.ireturn, 1) := by decide +kernel
theorem dX9_candidateAt_0 : decode cX9_candidateAt 0 = .ok (.aload_n 0, 1) := by decide +kernel
theorem dX9_candidateAt_1 : decode cX9_candidateAt 1 = .ok (.iload_n 1, 1) := by decide +kernel
theorem dX9_candidateAt_2 : decode cX9_candidateAt 2 = .ok (.invokevirtual 171, 3) := by decide +kernel
theorem dX9_candidateAt_5 : decode cX9_candidateAt 5 = .ok (.istore_n 3, 1) := by decide +kernel
theorem dX9_candidateAt_6 : decode cX9_candidateAt 6 = .ok (.iload_n 2, 1) := by decide +kernel
theorem dX9_candidateAt_7 : decode cX9_candidateAt 7 = .ok (.istore 4, 2) := by decide +kernel
theorem dX9_candidateAt_9 : decode cX9_candidateAt 9 = .ok (.iconst (-1), 1) := by decide +kernel
theorem dX9_candidateAt_10 : decode cX9_candidateAt 10 = .ok (.istore 5, 2) := by decide +kernel
theorem dX9_candidateAt_12 : decode cX9_candidateAt 12 = .ok (.iconst 0, 1) := by decide +kernel
theorem dX9_candidateAt_13 : decode cX9_candidateAt 13 = .ok (.istore 6, 2) := by decide +kernel
theorem dX9_candidateAt_15 : decode cX9_candidateAt 15 = .ok (.iload 6, 2) := by decide +kernel
theorem dX9_candidateAt_17 : decode cX9_candidateAt 17 = .ok (.aload_n 0, 1) := by decide +kernel
theorem dX9_candidateAt_18 : decode cX9_candidateAt 18 = .ok (.getfield 168, 3) := by decide +kernel
theorem dX9_candidateAt_21 : decode cX9_candidateAt 21 = .ok (.if_icmp .ge 90, 3) := by decide +kernel
theorem dX9_candidateAt_24 : decode cX9_candidateAt 24 = .ok (.iload_n 3, 1) := by decide +kernel
theorem dX9_candidateAt_25 : decode cX9_candidateAt 25 = .ok (.ifCond .eq 22, 3) := by decide +kernel
theorem dX9_candidateAt_28 : decode cX9_candidateAt 28 = .ok (.aload_n 0, 1) := by decide +kernel
theorem dX9_candidateAt_29 : decode cX9_candidateAt 29 = .ok (.getfield 13, 3) := by decide +kernel
theorem dX9_candidateAt_32 : decode cX9_candidateAt 32 = .ok (.iload 6, 2) := by decide +kernel
theorem dX9_candidateAt_34 : decode cX9_candidateAt 34 = .ok (.iaload, 1) := by decide +kernel
theorem dX9_candidateAt_35 : decode cX9_candidateAt 35 = .ok (.iload_n 1, 1) := by decide +kernel
theorem dX9_candidateAt_36 : decode cX9_candidateAt 36 = .ok (.if_icmp .ne 7, 3) := by decide +kernel
theorem dX9_candidateAt_39 : decode cX9_candidateAt 39 = .ok (.iconst 1, 1) := by decide +kernel
theorem dX9_candidateAt_40 : decode cX9_candidateAt 40 = .ok (.goto 41, 3) := by decide +kernel
theorem dX9_candidateAt_43 : decode cX9_candidateAt 43 = .ok (.iconst 0, 1) := by decide +kernel
theorem dX9_candidateAt_44 : decode cX9_candidateAt 44 = .ok (.goto 37, 3) := by decide +kernel
theorem dX9_candidateAt_47 : decode cX9_candidateAt 47 = .ok (.aload_n 0, 1) := by decide +kernel
theorem dX9_candidateAt_48 : decode cX9_candidateAt 48 = .ok (.getfield 13, 3) := by decide +kernel
theorem dX9_candidateAt_51 : decode cX9_candidateAt 51 = .ok (.iload 6, 2) := by decide +kernel
theorem dX9_candidateAt_53 : decode cX9_candidateAt 53 = .ok (.iaload, 1) := by decide +kernel
theorem dX9_candidateAt_54 : decode cX9_candidateAt 54 = .ok (.iload_n 1, 1) := by decide +kernel
theorem dX9_candidateAt_55 : decode cX9_candidateAt 55 = .ok (.invokestatic 147, 3) := by decide +kernel
theorem dX9_candidateAt_58 : decode cX9_candidateAt 58 = .ok (.iconst 1, 1) := by decide +kernel
theorem dX9_candidateAt_59 : decode cX9_candidateAt 59 = .ok (.if_icmp .eq 17, 3) := by decide +kernel
theorem dX9_candidateAt_62 : decode cX9_candidateAt 62 = .ok (.aload_n 0, 1) := by decide +kernel
theorem dX9_candidateAt_63 : decode cX9_candidateAt 63 = .ok (.getfield 13, 3) := by decide +kernel
theorem dX9_candidateAt_66 : decode cX9_candidateAt 66 = .ok (.iload 6, 2) := by decide +kernel
theorem dX9_candidateAt_68 : decode cX9_candidateAt 68 = .ok (.iaload, 1) := by decide +kernel
theorem dX9_candidateAt_69 : decode cX9_candidateAt 69 = .ok (.iload_n 1, 1) := by decide +kernel
theorem dX9_candidateAt_70 : decode cX9_candidateAt 70 = .ok (.invokestatic 174, 3) := by decide +kernel
theorem dX9_candidateAt_73 : decode cX9_candidateAt 73 = .ok (.ifCond .eq 7, 3) := by decide +kernel
theorem dX9_candidateAt_76 : decode cX9_candidateAt 76 = .ok (.iconst 1, 1) := by decide +kernel
theorem dX9_candidateAt_77 : decode cX9_candidateAt 77 = .ok (.goto 4, 3) := by decide +kernel
theorem dX9_candidateAt_80 : decode cX9_candidateAt 80 = .ok (.iconst 0, 1) := by decide +kernel
theorem dX9_candidateAt_81 : decode cX9_candidateAt 81 = .ok (.istore 7, 2) := by decide +kernel
theorem dX9_candidateAt_83 : decode cX9_candidateAt 83 = .ok (.iload 7, 2) := by decide +kernel
theorem dX9_candidateAt_85 : decode cX9_candidateAt 85 = .ok (.ifCond .eq 20, 3) := by decide +kernel
theorem dX9_candidateAt_88 : decode cX9_candidateAt 88 = .ok (.iload 4, 2) := by decide +kernel
theorem dX9_candidateAt_90 : decode cX9_candidateAt 90 = .ok (.ifCond .ne 8, 3) := by decide +kernel
theorem dX9_candidateAt_93 : decode cX9_candidateAt 93 = .ok (.iload 6, 2) := by decide +kernel
theorem dX9_candidateAt_95 : decode cX9_candidateAt 95 = .ok (.goto 5, 3) := by decide +kernel
theorem dX9_candidateAt_98 : decode cX9_candidateAt 98 = .ok (.iload 5, 2) := by decide +kernel
theorem dX9_candidateAt_100 : decode cX9_candidateAt 100 = .ok (.istore 5, 2) := by decide +kernel
theorem dX9_candidateAt_102 : decode cX9_candidateAt 102 = .ok (.iinc 4 (-1), 3) := by decide +kernel
theorem dX9_candidateAt_105 : decode cX9_candidateAt 105 = .ok (.iinc 6 1, 3) := by decide +kernel
theorem dX9_candidateAt_108 : decode cX9_candidateAt 108 = .ok (.goto (-93), 3) := by decide +kernel
theorem dX9_candidateAt_111 : decode cX9_candidateAt 111 = .ok (.iload 5, 2) := by decide +kernel
theorem dX9_candidateAt_113 : decode cX9_candidateAt 113 = .ok (.ireturn, 1) := by decide +kernel
theorem dX9_candidatesOf_0 : decode cX9_candidatesOf 0 = .ok (.iconst 0, 1) := by decide +kernel
theorem dX9_candidatesOf_1 : decode cX9_candidatesOf 1 = .ok (.istore_n 2, 1) := by decide +kernel
theorem dX9_candidatesOf_2 : decode cX9_candidatesOf 2 = .ok (.aload_n 0, 1) := by decide +kernel
theorem dX9_candidatesOf_3 : decode cX9_candidatesOf 3 = .ok (.iload_n 1, 1) := by decide +kernel
theorem dX9_candidatesOf_4 : decode cX9_candidatesOf 4 = .ok (.iload_n 2, 1) := by decide +kernel
theorem dX9_candidatesOf_5 : decode cX9_candidatesOf 5 = .ok (.invokevirtual 178, 3) := by decide +kernel
theorem dX9_candidatesOf_8 : decode cX9_candidatesOf 8 = .ok (.iconst (-1), 1) := by decide +kernel
theorem dX9_candidatesOf_9 : decode cX9_candidatesOf 9 = .ok (.if_icmp .eq 9, 3) := by decide +kernel
theorem dX9_candidatesOf_12 : decode cX9_candidatesOf 12 = .ok (.iinc 2 1, 3) := by decide +kernel
theorem dX9_candidatesOf_15 : decode cX9_candidatesOf 15 = .ok (.goto (-13), 3) := by decide +kernel
theorem dX9_candidatesOf_18 : decode cX9_candidatesOf 18 = .ok (.iload_n 2, 1) := by decide +kernel
theorem dX9_candidatesOf_19 : decode cX9_candidatesOf 19 = .ok (.ireturn, 1) := by decide +kernel
theorem dX9_candidates_0 : decode cX9_candidates 0 = .ok (.aload_n 0, 1) := by decide +kernel
theorem dX9_candidates_1 : decode cX9_candidates 1 = .ok (.iload_n 1, 1) := by decide +kernel
theorem dX9_candidates_2 : decode cX9_candidates 2 = .ok (.invokestatic 165, 3) := by decide +kernel
theorem dX9_candidates_5 : decode cX9_candidates 5 = .ok (.invokevirtual 150, 3) := by decide +kernel
theorem dX9_candidates_8 : decode cX9_candidates 8 = .ok (.ifCond .eq 11, 3) := by decide +kernel
theorem dX9_candidates_11 : decode cX9_candidates 11 = .ok (.aload_n 0, 1) := by decide +kernel
theorem dX9_candidates_12 : decode cX9_candidates 12 = .ok (.iload_n 1, 1) := by decide +kernel
theorem dX9_candidates_13 : decode cX9_candidates 13 = .ok (.invokevirtual 181, 3) := by decide +kernel
theorem dX9_candidates_16 : decode cX9_candidates 16 = .ok (.goto 4, 3) := by decide +kernel
theorem dX9_candidates_19 : decode cX9_candidates 19 = .ok (.iconst 0, 1) := by decide +kernel
theorem dX9_candidates_20 : decode cX9_candidates 20 = .ok (.ireturn, 1) := by decide +kernel
theorem dX9_candidate_0 : decode cX9_candidate 0 = .ok (.aload_n 0, 1) := by decide +kernel
theorem dX9_candidate_1 : decode cX9_candidate 1 = .ok (.iload_n 2, 1) := by decide +kernel
theorem dX9_candidate_2 : decode cX9_candidate 2 = .ok (.ifCond .lt 7, 3) := by decide +kernel
theorem dX9_candidate_5 : decode cX9_candidate 5 = .ok (.iconst 1, 1) := by decide +kernel
theorem dX9_candidate_6 : decode cX9_candidate 6 = .ok (.goto 4, 3) := by decide +kernel
theorem dX9_candidate_9 : decode cX9_candidate 9 = .ok (.iconst 0, 1) := by decide +kernel
theorem dX9_candidate_10 : decode cX9_candidate 10 = .ok (.invokevirtual 150, 3) := by decide +kernel
theorem dX9_candidate_13 : decode cX9_candidate 13 = .ok (.ifCond .ne 5, 3) := by decide +kernel
theorem dX9_candidate_16 : decode cX9_candidate 16 = .ok (.iconst 0, 1) := by decide +kernel
theorem dX9_candidate_17 : decode cX9_candidate 17 = .ok (.ireturn, 1) := by decide +kernel
theorem dX9_candidate_18 : decode cX9_candidate 18 = .ok (.iload_n 1, 1) := by decide +kernel
theorem dX9_candidate_19 : decode cX9_candidate 19 = .ok (.invokestatic 165, 3) := by decide +kernel
theorem dX9_candidate_22 : decode cX9_candidate 22 = .ok (.ifCond .eq 12, 3) := by decide +kernel
theorem dX9_candidate_25 : decode cX9_candidate 25 = .ok (.aload_n 0, 1) := by decide +kernel
theorem dX9_candidate_26 : decode cX9_candidate 26 = .ok (.iload_n 1, 1) := by decide +kernel
theorem dX9_candidate_27 : decode cX9_candidate 27 = .ok (.iload_n 2, 1) := by decide +kernel
theorem dX9_candidate_28 : decode cX9_candidate 28 = .ok (.invokevirtual 178, 3) := by decide +kernel
theorem dX9_candidate_31 : decode cX9_candidate 31 = .ok (.goto 8, 3) := by decide +kernel
theorem dX9_candidate_34 : decode cX9_candidate 34 = .ok (.aload_n 0, 1) := by decide +kernel
theorem dX9_candidate_35 : decode cX9_candidate 35 = .ok (.iconst 2, 1) := by decide +kernel
theorem dX9_candidate_36 : decode cX9_candidate 36 = .ok (.invokevirtual 154, 3) := by decide +kernel
theorem dX9_candidate_39 : decode cX9_candidate 39 = .ok (.ireturn, 1) := by decide +kernel
theorem dX9_office_0 : decode cX9_office 0 = .ok (.aload_n 0, 1) := by decide +kernel
theorem dX9_office_1 : decode cX9_office 1 = .ok (.iconst 0, 1) := by decide +kernel
theorem dX9_office_2 : decode cX9_office 2 = .ok (.putfield 122, 3) := by decide +kernel
theorem dX9_office_5 : decode cX9_office 5 = .ok (.aload_n 0, 1) := by decide +kernel
theorem dX9_office_6 : decode cX9_office 6 = .ok (.getfield 133, 3) := by decide +kernel
theorem dX9_office_9 : decode cX9_office 9 = .ok (.bipush 8, 2) := by decide +kernel
theorem dX9_office_11 : decode cX9_office 11 = .ok (.if_icmp .ne 9, 3) := by decide +kernel
theorem dX9_office_14 : decode cX9_office 14 = .ok (.aload_n 0, 1) := by decide +kernel
theorem dX9_office_15 : decode cX9_office 15 = .ok (.iconst 1, 1) := by decide +kernel
theorem dX9_office_16 : decode cX9_office 16 = .ok (.invokevirtual 154, 3) := by decide +kernel
theorem dX9_office_19 : decode cX9_office 19 = .ok (.ireturn, 1) := by decide +kernel
theorem dX9_office_20 : decode cX9_office 20 = .ok (.aload_n 0, 1) := by decide +kernel
theorem dX9_office_21 : decode cX9_office 21 = .ok (.dup, 1) := by decide +kernel
theorem dX9_office_22 : decode cX9_office 22 = .ok (.getfield 133, 3) := by decide +kernel
theorem dX9_office_25 : decode cX9_office 25 = .ok (.iconst 1, 1) := by decide +kernel
theorem dX9_office_26 : decode cX9_office 26 = .ok (.iadd, 1) := by decide +kernel
theorem dX9_office_27 : decode cX9_office 27 = .ok (.putfield 133, 3) := by decide +kernel
theorem dX9_office_30 : decode cX9_office 30 = .ok (.aload_n 0, 1) := by decide +kernel
theorem dX9_office_31 : decode cX9_office 31 = .ok (.getfield 133, 3) := by decide +kernel
theorem dX9_office_34 : decode cX9_office 34 = .ok (.iconst 1, 1) := by decide +kernel
theorem dX9_office_35 : decode cX9_office 35 = .ok (.isub, 1) := by decide +kernel
theorem dX9_office_36 : decode cX9_office 36 = .ok (.ireturn, 1) := by decide +kernel
theorem dX9_cable_0 : decode cX9_cable 0 = .ok (.aload_n 0, 1) := by decide +kernel
theorem dX9_cable_1 : decode cX9_cable 1 = .ok (.aload_n 0, 1) := by decide +kernel
theorem dX9_cable_2 : decode cX9_cable 2 = .ok (.iload_n 1, 1) := by decide +kernel
theorem dX9_cable_3 : decode cX9_cable 3 = .ok (.invokevirtual 184, 3) := by decide +kernel
theorem dX9_cable_6 : decode cX9_cable 6 = .ok (.ifCond .eq 15, 3) := by decide +kernel
theorem dX9_cable_9 : decode cX9_cable 9 = .ok (.aload_n 0, 1) := by decide +kernel
theorem dX9_cable_10 : decode cX9_cable 10 = .ok (.iload_n 2, 1) := by decide +kernel
theorem dX9_cable_11 : decode cX9_cable 11 = .ok (.invokevirtual 184, 3) := by decide +kernel
theorem dX9_cable_14 : decode cX9_cable 14 = .ok (.ifCond .eq 7, 3) := by decide +kernel
theorem dX9_cable_17 : decode cX9_cable 17 = .ok (.iconst 1, 1) := by decide +kernel
theorem dX9_cable_18 : decode cX9_cable 18 = .ok (.goto 4, 3) := by decide +kernel
theorem dX9_cable_21 : decode cX9_cable 21 = .ok (.iconst 0, 1) := by decide +kernel
theorem dX9_cable_22 : decode cX9_cable 22 = .ok (.invokevirtual 150, 3) := by decide +kernel
theorem dX9_cable_25 : decode cX9_cable 25 = .ok (.ifCond .ne 5, 3) := by decide +kernel
theorem dX9_cable_28 : decode cX9_cable 28 = .ok (.iconst 0, 1) := by decide +kernel
theorem dX9_cable_29 : decode cX9_cable 29 = .ok (.ireturn, 1) := by decide +kernel
theorem dX9_cable_30 : decode cX9_cable 30 = .ok (.iload_n 1, 1) := by decide +kernel
theorem dX9_cable_31 : decode cX9_cable 31 = .ok (.iload_n 2, 1) := by decide +kernel
theorem dX9_cable_32 : decode cX9_cable 32 = .ok (.if_icmp .eq 24, 3) := by decide +kernel
theorem dX9_cable_35 : decode cX9_cable 35 = .ok (.iload_n 3, 1) := by decide +kernel
theorem dX9_cable_36 : decode cX9_cable 36 = .ok (.iconst 1, 1) := by decide +kernel
theorem dX9_cable_37 : decode cX9_cable 37 = .ok (.bipush 100, 2) := by decide +kernel
theorem dX9_cable_39 : decode cX9_cable 39 = .ok (.invokestatic 129, 3) := by decide +kernel
theorem dX9_cable_42 : decode cX9_cable 42 = .ok (.ifCond .eq 14, 3) := by decide +kernel
theorem dX9_cable_45 : decode cX9_cable 45 = .ok (.iload 4, 2) := by decide +kernel
theorem dX9_cable_47 : decode cX9_cable 47 = .ok (.iconst 1, 1) := by decide +kernel
theorem dX9_cable_48 : decode cX9_cable 48 = .ok (.bipush 20, 2) := by decide +kernel
theorem dX9_cable_50 : decode cX9_cable 50 = .ok (.invokestatic 129, 3) := by decide +kernel
theorem dX9_cable_53 : decode cX9_cable 53 = .ok (.ifCond .ne 9, 3) := by decide +kernel
theorem dX9_cable_56 : decode cX9_cable 56 = .ok (.aload_n 0, 1) := by decide +kernel
theorem dX9_cable_57 : decode cX9_cable 57 = .ok (.iconst 2, 1) := by decide +kernel
theorem dX9_cable_58 : decode cX9_cable 58 = .ok (.invokevirtual 154, 3) := by decide +kernel
theorem dX9_cable_61 : decode cX9_cable 61 = .ok (.ireturn, 1) := by decide +kernel
theorem dX9_cable_62 : decode cX9_cable 62 = .ok (.aload_n 0, 1) := by decide +kernel
theorem dX9_cable_63 : decode cX9_cable 63 = .ok (.getfield 136, 3) := by decide +kernel
theorem dX9_cable_66 : decode cX9_cable 66 = .ok (.bipush 12, 2) := by decide +kernel
theorem dX9_cable_68 : decode cX9_cable 68 = .ok (.if_icmp .ne 9, 3) := by decide +kernel
theorem dX9_cable_71 : decode cX9_cable 71 = .ok (.aload_n 0, 1) := by decide +kernel
theorem dX9_cable_72 : decode cX9_cable 72 = .ok (.iconst 3, 1) := by decide +kernel
theorem dX9_cable_73 : decode cX9_cable 73 = .ok (.invokevirtual 154, 3) := by decide +kernel
theorem dX9_cable_76 : decode cX9_cable 76 = .ok (.ireturn, 1) := by decide +kernel
theorem dX9_cable_77 : decode cX9_cable 77 = .ok (.aload_n 0, 1) := by decide +kernel
theorem dX9_cable_78 : decode cX9_cable 78 = .ok (.getfield 32, 3) := by decide +kernel
theorem dX9_cable_81 : decode cX9_cable 81 = .ok (.aload_n 0, 1) := by decide +kernel
theorem dX9_cable_82 : decode cX9_cable 82 = .ok (.getfield 136, 3) := by decide +kernel
theorem dX9_cable_85 : decode cX9_cable 85 = .ok (.iload_n 1, 1) := by decide +kernel
theorem dX9_cable_86 : decode cX9_cable 86 = .ok (.iastore, 1) := by decide +kernel
theorem dX9_cable_87 : decode cX9_cable 87 = .ok (.aload_n 0, 1) := by decide +kernel
theorem dX9_cable_88 : decode cX9_cable 88 = .ok (.getfield 35, 3) := by decide +kernel
theorem dX9_cable_91 : decode cX9_cable 91 = .ok (.aload_n 0, 1) := by decide +kernel
theorem dX9_cable_92 : decode cX9_cable 92 = .ok (.getfield 136, 3) := by decide +kernel
theorem dX9_cable_95 : decode cX9_cable 95 = .ok (.iload_n 2, 1) := by decide +kernel
theorem dX9_cable_96 : decode cX9_cable 96 = .ok (.iastore, 1) := by decide +kernel
theorem dX9_cable_97 : decode cX9_cable 97 = .ok (.aload_n 0, 1) := by decide +kernel
theorem dX9_cable_98 : decode cX9_cable 98 = .ok (.getfield 38, 3) := by decide +kernel
theorem dX9_cable_101 : decode cX9_cable 101 = .ok (.aload_n 0, 1) := by decide +kernel
theorem dX9_cable_102 : decode cX9_cable 102 = .ok (.getfield 136, 3) := by decide +kernel
theorem dX9_cable_105 : decode cX9_cable 105 = .ok (.iload_n 3, 1) := by decide +kernel
theorem dX9_cable_106 : decode cX9_cable 106 = .ok (.iastore, 1) := by decide +kernel
theorem dX9_cable_107 : decode cX9_cable 107 = .ok (.aload_n 0, 1) := by decide +kernel
theorem dX9_cable_108 : decode cX9_cable 108 = .ok (.getfield 41, 3) := by decide +kernel
theorem dX9_cable_111 : decode cX9_cable 111 = .ok (.aload_n 0, 1) := by decide +kernel
theorem dX9_cable_112 : decode cX9_cable 112 = .ok (.getfield 136, 3) := by decide +kernel
theorem dX9_cable_115 : decode cX9_cable 115 = .ok (.iload 4, 2) := by decide +kernel
theorem dX9_cable_117 : decode cX9_cable 117 = .ok (.iastore, 1) := by decide +kernel
theorem dX9_cable_118 : decode cX9_cable 118 = .ok (.aload_n 0, 1) := by decide +kernel
theorem dX9_cable_119 : decode cX9_cable 119 = .ok (.dup, 1) := by decide +kernel
theorem dX9_cable_120 : decode cX9_cable 120 = .ok (.getfield 136, 3) := by decide +kernel
theorem dX9_cable_123 : decode cX9_cable 123 = .ok (.iconst 1, 1) := by decide +kernel
theorem dX9_cable_124 : decode cX9_cable 124 = .ok (.iadd, 1) := by decide +kernel
theorem dX9_cable_125 : decode cX9_cable 125 = .ok (.putfield 136, 3) := by decide +kernel
theorem dX9_cable_128 : decode cX9_cable 128 = .ok (.aload_n 0, 1) := by decide +kernel
theorem dX9_cable_129 : decode cX9_cable 129 = .ok (.getfield 136, 3) := by decide +kernel
theorem dX9_cable_132 : decode cX9_cable 132 = .ok (.iconst 1, 1) := by decide +kernel
theorem dX9_cable_133 : decode cX9_cable 133 = .ok (.isub, 1) := by decide +kernel
theorem dX9_cable_134 : decode cX9_cable 134 = .ok (.ireturn, 1) := by decide +kernel
theorem dX9_cableOf_0 : decode cX9_cableOf 0 = .ok (.aload_n 0, 1) := by decide +kernel
theorem dX9_cableOf_1 : decode cX9_cableOf 1 = .ok (.getfield 77, 3) := by decide +kernel
theorem dX9_cableOf_4 : decode cX9_cableOf 4 = .ok (.iload_n 1, 1) := by decide +kernel
theorem dX9_cableOf_5 : decode cX9_cableOf 5 = .ok (.iaload, 1) := by decide +kernel
theorem dX9_cableOf_6 : decode cX9_cableOf 6 = .ok (.ifCond .ne 22, 3) := by decide +kernel
theorem dX9_cableOf_9 : decode cX9_cableOf 9 = .ok (.aload_n 0, 1) := by decide +kernel
theorem dX9_cableOf_10 : decode cX9_cableOf 10 = .ok (.getfield 101, 3) := by decide +kernel
theorem dX9_cableOf_13 : decode cX9_cableOf 13 = .ok (.bipush 8, 2) := by decide +kernel
theorem dX9_cableOf_15 : decode cX9_cableOf 15 = .ok (.iload_n 1, 1) := by decide +kernel
theorem dX9_cableOf_16 : decode cX9_cableOf 16 = .ok (.imul, 1) := by decide +kernel
theorem dX9_cableOf_17 : decode cX9_cableOf 17 = .ok (.aload_n 0, 1) := by decide +kernel
theorem dX9_cableOf_18 : decode cX9_cableOf 18 = .ok (.getfield 107, 3) := by decide +kernel
theorem dX9_cableOf_21 : decode cX9_cableOf 21 = .ok (.iload_n 1, 1) := by decide +kernel
theorem dX9_cableOf_22 : decode cX9_cableOf 22 = .ok (.iaload, 1) := by decide +kernel
theorem dX9_cableOf_23 : decode cX9_cableOf 23 = .ok (.iadd, 1) := by decide +kernel
theorem dX9_cableOf_24 : decode cX9_cableOf 24 = .ok (.iaload, 1) := by decide +kernel
theorem dX9_cableOf_25 : decode cX9_cableOf 25 = .ok (.goto 4, 3) := by decide +kernel
theorem dX9_cableOf_28 : decode cX9_cableOf 28 = .ok (.iconst (-1), 1) := by decide +kernel
theorem dX9_cableOf_29 : decode cX9_cableOf 29 = .ok (.ireturn, 1) := by decide +kernel
theorem dX9_broken_0 : decode cX9_broken 0 = .ok (.aload_n 0, 1) := by decide +kernel
theorem dX9_broken_1 : decode cX9_broken 1 = .ok (.aload_n 0, 1) := by decide +kernel
theorem dX9_broken_2 : decode cX9_broken 2 = .ok (.iload_n 1, 1) := by decide +kernel
theorem dX9_broken_3 : decode cX9_broken 3 = .ok (.invokevirtual 187, 3) := by decide +kernel
theorem dX9_broken_6 : decode cX9_broken 6 = .ok (.invokevirtual 150, 3) := by decide +kernel
theorem dX9_broken_9 : decode cX9_broken 9 = .ok (.ifCond .ne 5, 3) := by decide +kernel
theorem dX9_broken_12 : decode cX9_broken 12 = .ok (.iconst 0, 1) := by decide +kernel
theorem dX9_broken_13 : decode cX9_broken 13 = .ok (.ireturn, 1) := by decide +kernel
theorem dX9_broken_14 : decode cX9_broken 14 = .ok (.aload_n 0, 1) := by decide +kernel
theorem dX9_broken_15 : decode cX9_broken 15 = .ok (.getfield 44, 3) := by decide +kernel
theorem dX9_broken_18 : decode cX9_broken 18 = .ok (.iload_n 1, 1) := by decide +kernel
theorem dX9_broken_19 : decode cX9_broken 19 = .ok (.iload_n 2, 1) := by decide +kernel
theorem dX9_broken_20 : decode cX9_broken 20 = .ok (.bastore, 1) := by decide +kernel
theorem dX9_broken_21 : decode cX9_broken 21 = .ok (.iconst 0, 1) := by decide +kernel
theorem dX9_broken_22 : decode cX9_broken 22 = .ok (.istore_n 3, 1) := by decide +kernel
theorem dX9_broken_23 : decode cX9_broken 23 = .ok (.iconst 0, 1) := by decide +kernel
theorem dX9_broken_24 : decode cX9_broken 24 = .ok (.istore 4, 2) := by decide +kernel
theorem dX9_broken_26 : decode cX9_broken 26 = .ok (.iload 4, 2) := by decide +kernel
theorem dX9_broken_28 : decode cX9_broken 28 = .ok (.aload_n 0, 1) := by decide +kernel
theorem dX9_broken_29 : decode cX9_broken 29 = .ok (.getfield 139, 3) := by decide +kernel
theorem dX9_broken_32 : decode cX9_broken 32 = .ok (.if_icmp .ge 27, 3) := by decide +kernel
theorem dX9_broken_35 : decode cX9_broken 35 = .ok (.iload_n 3, 1) := by decide +kernel
theorem dX9_broken_36 : decode cX9_broken 36 = .ok (.aload_n 0, 1) := by decide +kernel
theorem dX9_broken_37 : decode cX9_broken 37 = .ok (.iload 4, 2) := by decide +kernel
theorem dX9_broken_39 : decode cX9_broken 39 = .ok (.invokevirtual 190, 3) := by decide +kernel
theorem dX9_broken_42 : decode cX9_broken 42 = .ok (.iload_n 1, 1) := by decide +kernel
theorem dX9_broken_43 : decode cX9_broken 43 = .ok (.if_icmp .ne 7, 3) := by decide +kernel
theorem dX9_broken_46 : decode cX9_broken 46 = .ok (.iconst 1, 1) := by decide +kernel
theorem dX9_broken_47 : decode cX9_broken 47 = .ok (.goto 4, 3) := by decide +kernel
theorem dX9_broken_50 : decode cX9_broken 50 = .ok (.iconst 0, 1) := by decide +kernel
theorem dX9_broken_51 : decode cX9_broken 51 = .ok (.iadd, 1) := by decide +kernel
theorem dX9_broken_52 : decode cX9_broken 52 = .ok (.istore_n 3, 1) := by decide +kernel
theorem dX9_broken_53 : decode cX9_broken 53 = .ok (.iinc 4 1, 3) := by decide +kernel
theorem dX9_broken_56 : decode cX9_broken 56 = .ok (.goto (-30), 3) := by decide +kernel
theorem dX9_broken_59 : decode cX9_broken 59 = .ok (.iload_n 3, 1) := by decide +kernel
theorem dX9_broken_60 : decode cX9_broken 60 = .ok (.ireturn, 1) := by decide +kernel
theorem dX9_forbid_0 : decode cX9_forbid 0 = .ok (.aload_n 0, 1) := by decide +kernel
theorem dX9_forbid_1 : decode cX9_forbid 1 = .ok (.aload_n 0, 1) := by decide +kernel
theorem dX9_forbid_2 : decode cX9_forbid 2 = .ok (.iload_n 1, 1) := by decide +kernel
theorem dX9_forbid_3 : decode cX9_forbid 3 = .ok (.invokevirtual 184, 3) := by decide +kernel
theorem dX9_forbid_6 : decode cX9_forbid 6 = .ok (.invokevirtual 150, 3) := by decide +kernel
theorem dX9_forbid_9 : decode cX9_forbid 9 = .ok (.ifCond .ne 5, 3) := by decide +kernel
theorem dX9_forbid_12 : decode cX9_forbid 12 = .ok (.iconst 0, 1) := by decide +kernel
theorem dX9_forbid_13 : decode cX9_forbid 13 = .ok (.ireturn, 1) := by decide +kernel
theorem dX9_forbid_14 : decode cX9_forbid 14 = .ok (.aload_n 0, 1) := by decide +kernel
theorem dX9_forbid_15 : decode cX9_forbid 15 = .ok (.getfield 19, 3) := by decide +kernel
theorem dX9_forbid_18 : decode cX9_forbid 18 = .ok (.iload_n 1, 1) := by decide +kernel
theorem dX9_forbid_19 : decode cX9_forbid 19 = .ok (.baload, 1) := by decide +kernel
theorem dX9_forbid_20 : decode cX9_forbid 20 = .ok (.istore_n 3, 1) := by decide +kernel
theorem dX9_forbid_21 : decode cX9_forbid 21 = .ok (.aload_n 0, 1) := by decide +kernel
theorem dX9_forbid_22 : decode cX9_forbid 22 = .ok (.getfield 19, 3) := by decide +kernel
theorem dX9_forbid_25 : decode cX9_forbid 25 = .ok (.iload_n 1, 1) := by decide +kernel
theorem dX9_forbid_26 : decode cX9_forbid 26 = .ok (.iload_n 2, 1) := by decide +kernel
theorem dX9_forbid_27 : decode cX9_forbid 27 = .ok (.bastore, 1) := by decide +kernel
theorem dX9_forbid_28 : decode cX9_forbid 28 = .ok (.iload_n 3, 1) := by decide +kernel
theorem dX9_forbid_29 : decode cX9_forbid 29 = .ok (.ireturn, 1) := by decide +kernel
theorem dX9_key_0 : decode cX9_key 0 = .ok (.aload_n 0, 1) := by decide +kernel
theorem dX9_key_1 : decode cX9_key 1 = .ok (.aload_n 0, 1) := by decide +kernel
theorem dX9_key_2 : decode cX9_key 2 = .ok (.iload_n 1, 1) := by decide +kernel
theorem dX9_key_3 : decode cX9_key 3 = .ok (.invokevirtual 184, 3) := by decide +kernel
theorem dX9_key_6 : decode cX9_key 6 = .ok (.invokevirtual 150, 3) := by decide +kernel
theorem dX9_key_9 : decode cX9_key 9 = .ok (.ifCond .ne 5, 3) := by decide +kernel
theorem dX9_key_12 : decode cX9_key 12 = .ok (.iconst 0, 1) := by decide +kernel
theorem dX9_key_13 : decode cX9_key 13 = .ok (.ireturn, 1) := by decide +kernel
theorem dX9_key_14 : decode cX9_key 14 = .ok (.iload_n 2, 1) := by decide +kernel
theorem dX9_key_15 : decode cX9_key 15 = .ok (.iconst 0, 1) := by decide +kernel
theorem dX9_key_16 : decode cX9_key 16 = .ok (.bipush 39, 2) := by decide +kernel
theorem dX9_key_18 : decode cX9_key 18 = .ok (.invokestatic 129, 3) := by decide +kernel
theorem dX9_key_21 : decode cX9_key 21 = .ok (.ifCond .ne 9, 3) := by decide +kernel
theorem dX9_key_24 : decode cX9_key 24 = .ok (.aload_n 0, 1) := by decide +kernel
theorem dX9_key_25 : decode cX9_key 25 = .ok (.iconst 2, 1) := by decide +kernel
theorem dX9_key_26 : decode cX9_key 26 = .ok (.invokevirtual 154, 3) := by decide +kernel
theorem dX9_key_29 : decode cX9_key 29 = .ok (.ireturn, 1) := by decide +kernel
theorem dX9_key_30 : decode cX9_key 30 = .ok (.aload_n 0, 1) := by decide +kernel
theorem dX9_key_31 : decode cX9_key 31 = .ok (.getfield 23, 3) := by decide +kernel
theorem dX9_key_34 : decode cX9_key 34 = .ok (.iload_n 1, 1) := by decide +kernel
theorem dX9_key_35 : decode cX9_key 35 = .ok (.iaload, 1) := by decide +kernel
theorem dX9_key_36 : decode cX9_key 36 = .ok (.istore_n 3, 1) := by decide +kernel
theorem dX9_key_37 : decode cX9_key 37 = .ok (.aload_n 0, 1) := by decide +kernel
theorem dX9_key_38 : decode cX9_key 38 = .ok (.getfield 23, 3) := by decide +kernel
theorem dX9_key_41 : decode cX9_key 41 = .ok (.iload_n 1, 1) := by decide +kernel
theorem dX9_key_42 : decode cX9_key 42 = .ok (.iload_n 2, 1) := by decide +kernel
theorem dX9_key_43 : decode cX9_key 43 = .ok (.iastore, 1) := by decide +kernel
theorem dX9_key_44 : decode cX9_key 44 = .ok (.iload_n 3, 1) := by decide +kernel
theorem dX9_key_45 : decode cX9_key 45 = .ok (.ireturn, 1) := by decide +kernel
theorem dX9_conference_0 : decode cX9_conference 0 = .ok (.aload_n 0, 1) := by decide +kernel
theorem dX9_conference_1 : decode cX9_conference 1 = .ok (.iload_n 1, 1) := by decide +kernel
theorem dX9_conference_2 : decode cX9_conference 2 = .ok (.iconst 0, 1) := by decide +kernel
theorem dX9_conference_3 : decode cX9_conference 3 = .ok (.sipush 1000, 3) := by decide +kernel
theorem dX9_conference_6 : decode cX9_conference 6 = .ok (.invokestatic 129, 3) := by decide +kernel
theorem dX9_conference_9 : decode cX9_conference 9 = .ok (.ifCond .eq 44, 3) := by decide +kernel
theorem dX9_conference_12 : decode cX9_conference 12 = .ok (.iload_n 2, 1) := by decide +kernel
theorem dX9_conference_13 : decode cX9_conference 13 = .ok (.iconst 5, 1) := by decide +kernel
theorem dX9_conference_14 : decode cX9_conference 14 = .ok (.bipush 20, 2) := by decide +kernel
theorem dX9_conference_16 : decode cX9_conference 16 = .ok (.invokestatic 129, 3) := by decide +kernel
theorem dX9_conference_19 : decode cX9_conference 19 = .ok (.ifCond .eq 34, 3) := by decide +kernel
theorem dX9_conference_22 : decode cX9_conference 22 = .ok (.iload_n 3, 1) := by decide +kernel
theorem dX9_conference_23 : decode cX9_conference 23 = .ok (.iconst 5, 1) := by decide +kernel
theorem dX9_conference_24 : decode cX9_conference 24 = .ok (.if_icmp .eq 15, 3) := by decide +kernel
theorem dX9_conference_27 : decode cX9_conference 27 = .ok (.iload_n 3, 1) := by decide +kernel
theorem dX9_conference_28 : decode cX9_conference 28 = .ok (.bipush 10, 2) := by decide +kernel
theorem dX9_conference_30 : decode cX9_conference 30 = .ok (.if_icmp .eq 9, 3) := by decide +kernel
theorem dX9_conference_33 : decode cX9_conference 33 = .ok (.iload_n 3, 1) := by decide +kernel
theorem dX9_conference_34 : decode cX9_conference 34 = .ok (.bipush 15, 2) := by decide +kernel
theorem dX9_conference_36 : decode cX9_conference 36 = .ok (.if_icmp .ne 17, 3) := by decide +kernel
theorem dX9_conference_39 : decode cX9_conference 39 = .ok (.iload 4, 2) := by decide +kernel
theorem dX9_conference_41 : decode cX9_conference 41 = .ok (.iconst 0, 1) := by decide +kernel
theorem dX9_conference_42 : decode cX9_conference 42 = .ok (.iconst 3, 1) := by decide +kernel
theorem dX9_conference_43 : decode cX9_conference 43 = .ok (.invokestatic 129, 3) := by decide +kernel
theorem dX9_conference_46 : decode cX9_conference 46 = .ok (.ifCond .eq 7, 3) := by decide +kernel
theorem dX9_conference_49 : decode cX9_conference 49 = .ok (.iconst 1, 1) := by decide +kernel
theorem dX9_conference_50 : decode cX9_conference 50 = .ok (.goto 4, 3) := by decide +kernel
theorem dX9_conference_53 : decode cX9_conference 53 = .ok (.iconst 0, 1) := by decide +kernel
theorem dX9_conference_54 : decode cX9_conference 54 = .ok (.invokevirtual 150, 3) := by decide +kernel
theorem dX9_conference_57 : decode cX9_conference 57 = .ok (.ifCond .ne 5, 3) := by decide +kernel
theorem dX9_conference_60 : decode cX9_conference 60 = .ok (.iconst 0, 1) := by decide +kernel
theorem dX9_conference_61 : decode cX9_conference 61 = .ok (.ireturn, 1) := by decide +kernel
theorem dX9_conference_62 : decode cX9_conference 62 = .ok (.aload_n 0, 1) := by decide +kernel
theorem dX9_conference_63 : decode cX9_conference 63 = .ok (.getfield 193, 3) := by decide +kernel
theorem dX9_conference_66 : decode cX9_conference 66 = .ok (.bipush 12, 2) := by decide +kernel
theorem dX9_conference_68 : decode cX9_conference 68 = .ok (.if_icmp .ne 9, 3) := by decide +kernel
theorem dX9_conference_71 : decode cX9_conference 71 = .ok (.aload_n 0, 1) := by decide +kernel
theorem dX9_conference_72 : decode cX9_conference 72 = .ok (.iconst 2, 1) := by decide +kernel
theorem dX9_conference_73 : decode cX9_conference 73 = .ok (.invokevirtual 154, 3) := by decide +kernel
theorem dX9_conference_76 : decode cX9_conference 76 = .ok (.ireturn, 1) := by decide +kernel
theorem dX9_conference_77 : decode cX9_conference 77 = .ok (.aload_n 0, 1) := by decide +kernel
theorem dX9_conference_78 : decode cX9_conference 78 = .ok (.dup, 1) := by decide +kernel
theorem dX9_conference_79 : decode cX9_conference 79 = .ok (.getfield 193, 3) := by decide +kernel
theorem dX9_conference_82 : decode cX9_conference 82 = .ok (.iconst 1, 1) := by decide +kernel
theorem dX9_conference_83 : decode cX9_conference 83 = .ok (.iadd, 1) := by decide +kernel
theorem dX9_conference_84 : decode cX9_conference 84 = .ok (.putfield 193, 3) := by decide +kernel
theorem dX9_conference_87 : decode cX9_conference 87 = .ok (.aload_n 0, 1) := by decide +kernel
theorem dX9_conference_88 : decode cX9_conference 88 = .ok (.getfield 47, 3) := by decide +kernel
theorem dX9_conference_91 : decode cX9_conference 91 = .ok (.aload_n 0, 1) := by decide +kernel
theorem dX9_conference_92 : decode cX9_conference 92 = .ok (.getfield 193, 3) := by decide +kernel
theorem dX9_conference_95 : decode cX9_conference 95 = .ok (.iload_n 1, 1) := by decide +kernel
theorem dX9_conference_96 : decode cX9_conference 96 = .ok (.iastore, 1) := by decide +kernel
theorem dX9_conference_97 : decode cX9_conference 97 = .ok (.aload_n 0, 1) := by decide +kernel
theorem dX9_conference_98 : decode cX9_conference 98 = .ok (.getfield 50, 3) := by decide +kernel
theorem dX9_conference_101 : decode cX9_conference 101 = .ok (.aload_n 0, 1) := by decide +kernel
theorem dX9_conference_102 : decode cX9_conference 102 = .ok (.getfield 193, 3) := by decide +kernel
theorem dX9_conference_105 : decode cX9_conference 105 = .ok (.iload_n 2, 1) := by decide +kernel
theorem dX9_conference_106 : decode cX9_conference 106 = .ok (.iastore, 1) := by decide +kernel
theorem dX9_conference_107 : decode cX9_conference 107 = .ok (.aload_n 0, 1) := by decide +kernel
theorem dX9_conference_108 : decode cX9_conference 108 = .ok (.getfield 53, 3) := by decide +kernel
theorem dX9_conference_111 : decode cX9_conference 111 = .ok (.aload_n 0, 1) := by decide +kernel
theorem dX9_conference_112 : decode cX9_conference 112 = .ok (.getfield 193, 3) := by decide +kernel
theorem dX9_conference_115 : decode cX9_conference 115 = .ok (.iload_n 3, 1) := by decide +kernel
theorem dX9_conference_116 : decode cX9_conference 116 = .ok (.iastore, 1) := by decide +kernel
theorem dX9_conference_117 : decode cX9_conference 117 = .ok (.aload_n 0, 1) := by decide +kernel
theorem dX9_conference_118 : decode cX9_conference 118 = .ok (.getfield 56, 3) := by decide +kernel
theorem dX9_conference_121 : decode cX9_conference 121 = .ok (.aload_n 0, 1) := by decide +kernel
theorem dX9_conference_122 : decode cX9_conference 122 = .ok (.getfield 193, 3) := by decide +kernel
theorem dX9_conference_125 : decode cX9_conference 125 = .ok (.iload 4, 2) := by decide +kernel
theorem dX9_conference_127 : decode cX9_conference 127 = .ok (.iastore, 1) := by decide +kernel
theorem dX9_conference_128 : decode cX9_conference 128 = .ok (.aload_n 0, 1) := by decide +kernel
theorem dX9_conference_129 : decode cX9_conference 129 = .ok (.getfield 193, 3) := by decide +kernel
theorem dX9_conference_132 : decode cX9_conference 132 = .ok (.ireturn, 1) := by decide +kernel
theorem dX9_rulesAt_0 : decode cX9_rulesAt 0 = .ok (.iconst 0, 1) := by decide +kernel
theorem dX9_rulesAt_1 : decode cX9_rulesAt 1 = .ok (.istore_n 2, 1) := by decide +kernel
theorem dX9_rulesAt_2 : decode cX9_rulesAt 2 = .ok (.iconst 1, 1) := by decide +kernel
theorem dX9_rulesAt_3 : decode cX9_rulesAt 3 = .ok (.istore_n 3, 1) := by decide +kernel
theorem dX9_rulesAt_4 : decode cX9_rulesAt 4 = .ok (.iload_n 3, 1) := by decide +kernel
theorem dX9_rulesAt_5 : decode cX9_rulesAt 5 = .ok (.aload_n 0, 1) := by decide +kernel
theorem dX9_rulesAt_6 : decode cX9_rulesAt 6 = .ok (.getfield 193, 3) := by decide +kernel
theorem dX9_rulesAt_9 : decode cX9_rulesAt 9 = .ok (.if_icmp .gt 45, 3) := by decide +kernel
theorem dX9_rulesAt_12 : decode cX9_rulesAt 12 = .ok (.aload_n 0, 1) := by decide +kernel
theorem dX9_rulesAt_13 : decode cX9_rulesAt 13 = .ok (.getfield 47, 3) := by decide +kernel
theorem dX9_rulesAt_16 : decode cX9_rulesAt 16 = .ok (.iload_n 3, 1) := by decide +kernel
theorem dX9_rulesAt_17 : decode cX9_rulesAt 17 = .ok (.iaload, 1) := by decide +kernel
theorem dX9_rulesAt_18 : decode cX9_rulesAt 18 = .ok (.aload_n 0, 1) := by decide +kernel
theorem dX9_rulesAt_19 : decode cX9_rulesAt 19 = .ok (.getfield 196, 3) := by decide +kernel
theorem dX9_rulesAt_22 : decode cX9_rulesAt 22 = .ok (.sipush 1440, 3) := by decide +kernel
theorem dX9_rulesAt_25 : decode cX9_rulesAt 25 = .ok (.idiv, 1) := by decide +kernel
theorem dX9_rulesAt_26 : decode cX9_rulesAt 26 = .ok (.if_icmp .gt 20, 3) := by decide +kernel
theorem dX9_rulesAt_29 : decode cX9_rulesAt 29 = .ok (.aload_n 0, 1) := by decide +kernel
theorem dX9_rulesAt_30 : decode cX9_rulesAt 30 = .ok (.getfield 26, 3) := by decide +kernel
theorem dX9_rulesAt_33 : decode cX9_rulesAt 33 = .ok (.iload_n 1, 1) := by decide +kernel
theorem dX9_rulesAt_34 : decode cX9_rulesAt 34 = .ok (.iaload, 1) := by decide +kernel
theorem dX9_rulesAt_35 : decode cX9_rulesAt 35 = .ok (.iload_n 3, 1) := by decide +kernel
theorem dX9_rulesAt_36 : decode cX9_rulesAt 36 = .ok (.ishr, 1) := by decide +kernel
theorem dX9_rulesAt_37 : decode cX9_rulesAt 37 = .ok (.iconst 1, 1) := by decide +kernel
theorem dX9_rulesAt_38 : decode cX9_rulesAt 38 = .ok (.iand, 1) := by decide +kernel
theorem dX9_rulesAt_39 : decode cX9_rulesAt 39 = .ok (.ifCond .ne 7, 3) := by decide +kernel
theorem dX9_rulesAt_42 : decode cX9_rulesAt 42 = .ok (.iload_n 3, 1) := by decide +kernel
theorem dX9_rulesAt_43 : decode cX9_rulesAt 43 = .ok (.goto 4, 3) := by decide +kernel
theorem dX9_rulesAt_46 : decode cX9_rulesAt 46 = .ok (.iload_n 2, 1) := by decide +kernel
theorem dX9_rulesAt_47 : decode cX9_rulesAt 47 = .ok (.istore_n 2, 1) := by decide +kernel
theorem dX9_rulesAt_48 : decode cX9_rulesAt 48 = .ok (.iinc 3 1, 3) := by decide +kernel
theorem dX9_rulesAt_51 : decode cX9_rulesAt 51 = .ok (.goto (-47), 3) := by decide +kernel
theorem dX9_rulesAt_54 : decode cX9_rulesAt 54 = .ok (.iload_n 2, 1) := by decide +kernel
theorem dX9_rulesAt_55 : decode cX9_rulesAt 55 = .ok (.ireturn, 1) := by decide +kernel
theorem dX9_reserve_0 : decode cX9_reserve 0 = .ok (.aload_n 0, 1) := by decide +kernel
theorem dX9_reserve_1 : decode cX9_reserve 1 = .ok (.aload_n 0, 1) := by decide +kernel
theorem dX9_reserve_2 : decode cX9_reserve 2 = .ok (.iload_n 1, 1) := by decide +kernel
theorem dX9_reserve_3 : decode cX9_reserve 3 = .ok (.invokevirtual 184, 3) := by decide +kernel
theorem dX9_reserve_6 : decode cX9_reserve 6 = .ok (.ifCond .eq 19, 3) := by decide +kernel
theorem dX9_reserve_9 : decode cX9_reserve 9 = .ok (.iload_n 2, 1) := by decide +kernel
theorem dX9_reserve_10 : decode cX9_reserve 10 = .ok (.iconst 1, 1) := by decide +kernel
theorem dX9_reserve_11 : decode cX9_reserve 11 = .ok (.aload_n 0, 1) := by decide +kernel
theorem dX9_reserve_12 : decode cX9_reserve 12 = .ok (.getfield 193, 3) := by decide +kernel
theorem dX9_reserve_15 : decode cX9_reserve 15 = .ok (.invokestatic 129, 3) := by decide +kernel
theorem dX9_reserve_18 : decode cX9_reserve 18 = .ok (.ifCond .eq 7, 3) := by decide +kernel
theorem dX9_reserve_21 : decode cX9_reserve 21 = .ok (.iconst 1, 1) := by decide +kernel
theorem dX9_reserve_22 : decode cX9_reserve 22 = .ok (.goto 4, 3) := by decide +kernel
theorem dX9_reserve_25 : decode cX9_reserve 25 = .ok (.iconst 0, 1) := by decide +kernel
theorem dX9_reserve_26 : decode cX9_reserve 26 = .ok (.invokevirtual 150, 3) := by decide +kernel
theorem dX9_reserve_29 : decode cX9_reserve 29 = .ok (.ifCond .ne 5, 3) := by decide +kernel
theorem dX9_reserve_32 : decode cX9_reserve 32 = .ok (.iconst 0, 1) := by decide +kernel
theorem dX9_reserve_33 : decode cX9_reserve 33 = .ok (.ireturn, 1) := by decide +kernel
theorem dX9_reserve_34 : decode cX9_reserve 34 = .ok (.aload_n 0, 1) := by decide +kernel
theorem dX9_reserve_35 : decode cX9_reserve 35 = .ok (.getfield 26, 3) := by decide +kernel
theorem dX9_reserve_38 : decode cX9_reserve 38 = .ok (.iload_n 1, 1) := by decide +kernel
theorem dX9_reserve_39 : decode cX9_reserve 39 = .ok (.dup2, 1) := by decide +kernel
theorem dX9_reserve_40 : decode cX9_reserve 40 = .ok (.iaload, 1) := by decide +kernel
theorem dX9_reserve_41 : decode cX9_reserve 41 = .ok (.iconst 1, 1) := by decide +kernel
theorem dX9_reserve_42 : decode cX9_reserve 42 = .ok (.iload_n 2, 1) := by decide +kernel
theorem dX9_reserve_43 : decode cX9_reserve 43 = .ok (.ishl, 1) := by decide +kernel
theorem dX9_reserve_44 : decode cX9_reserve 44 = .ok (.ior, 1) := by decide +kernel
theorem dX9_reserve_45 : decode cX9_reserve 45 = .ok (.iastore, 1) := by decide +kernel
theorem dX9_reserve_46 : decode cX9_reserve 46 = .ok (.aload_n 0, 1) := by decide +kernel
theorem dX9_reserve_47 : decode cX9_reserve 47 = .ok (.iload_n 1, 1) := by decide +kernel
theorem dX9_reserve_48 : decode cX9_reserve 48 = .ok (.invokevirtual 199, 3) := by decide +kernel
theorem dX9_reserve_51 : decode cX9_reserve 51 = .ok (.ireturn, 1) := by decide +kernel
theorem dX9_up_0 : decode cX9_up 0 = .ok (.iload_n 0, 1) := by decide +kernel
theorem dX9_up_1 : decode cX9_up 1 = .ok (.iload_n 1, 1) := by decide +kernel
theorem dX9_up_2 : decode cX9_up 2 = .ok (.iadd, 1) := by decide +kernel
theorem dX9_up_3 : decode cX9_up 3 = .ok (.iconst 1, 1) := by decide +kernel
theorem dX9_up_4 : decode cX9_up 4 = .ok (.isub, 1) := by decide +kernel
theorem dX9_up_5 : decode cX9_up 5 = .ok (.iload_n 1, 1) := by decide +kernel
theorem dX9_up_6 : decode cX9_up 6 = .ok (.idiv, 1) := by decide +kernel
theorem dX9_up_7 : decode cX9_up 7 = .ok (.ireturn, 1) := by decide +kernel
theorem dX9_sentAs_0 : decode cX9_sentAs 0 = .ok (.aload_n 0, 1) := by decide +kernel
theorem dX9_sentAs_1 : decode cX9_sentAs 1 = .ok (.getfield 13, 3) := by decide +kernel
theorem dX9_sentAs_4 : decode cX9_sentAs 4 = .ok (.iload_n 1, 1) := by decide +kernel
theorem dX9_sentAs_5 : decode cX9_sentAs 5 = .ok (.aload_n 0, 1) := by decide +kernel
theorem dX9_sentAs_6 : decode cX9_sentAs 6 = .ok (.getfield 23, 3) := by decide +kernel
theorem dX9_sentAs_9 : decode cX9_sentAs 9 = .ok (.iload_n 2, 1) := by decide +kernel
theorem dX9_sentAs_10 : decode cX9_sentAs 10 = .ok (.iaload, 1) := by decide +kernel
theorem dX9_sentAs_11 : decode cX9_sentAs 11 = .ok (.iadd, 1) := by decide +kernel
theorem dX9_sentAs_12 : decode cX9_sentAs 12 = .ok (.aload_n 0, 1) := by decide +kernel
theorem dX9_sentAs_13 : decode cX9_sentAs 13 = .ok (.getfield 168, 3) := by decide +kernel
theorem dX9_sentAs_16 : decode cX9_sentAs 16 = .ok (.irem, 1) := by decide +kernel
theorem dX9_sentAs_17 : decode cX9_sentAs 17 = .ok (.iaload, 1) := by decide +kernel
theorem dX9_sentAs_18 : decode cX9_sentAs 18 = .ok (.ireturn, 1) := by decide +kernel
theorem dX9_entryAt_0 : decode cX9_entryAt 0 = .ok (.iconst (-1), 1) := by decide +kernel
theorem dX9_entryAt_1 : decode cX9_entryAt 1 = .ok (.istore 4, 2) := by decide +kernel
theorem dX9_entryAt_3 : decode cX9_entryAt 3 = .ok (.iconst 0, 1) := by decide +kernel
theorem dX9_entryAt_4 : decode cX9_entryAt 4 = .ok (.istore 5, 2) := by decide +kernel
theorem dX9_entryAt_6 : decode cX9_entryAt 6 = .ok (.iload 5, 2) := by decide +kernel
theorem dX9_entryAt_8 : decode cX9_entryAt 8 = .ok (.aload_n 0, 1) := by decide +kernel
theorem dX9_entryAt_9 : decode cX9_entryAt 9 = .ok (.getfield 168, 3) := by decide +kernel
theorem dX9_entryAt_12 : decode cX9_entryAt 12 = .ok (.if_icmp .ge 124, 3) := by decide +kernel
theorem dX9_entryAt_15 : decode cX9_entryAt 15 = .ok (.iload_n 1, 1) := by decide +kernel
theorem dX9_entryAt_16 : decode cX9_entryAt 16 = .ok (.iload_n 2, 1) := by decide +kernel
theorem dX9_entryAt_17 : decode cX9_entryAt 17 = .ok (.iadd, 1) := by decide +kernel
theorem dX9_entryAt_18 : decode cX9_entryAt 18 = .ok (.aload_n 0, 1) := by decide +kernel
theorem dX9_entryAt_19 : decode cX9_entryAt 19 = .ok (.getfield 202, 3) := by decide +kernel
theorem dX9_entryAt_22 : decode cX9_entryAt 22 = .ok (.if_icmp .gt 7, 3) := by decide +kernel
theorem dX9_entryAt_25 : decode cX9_entryAt 25 = .ok (.iconst 1, 1) := by decide +kernel
theorem dX9_entryAt_26 : decode cX9_entryAt 26 = .ok (.goto 4, 3) := by decide +kernel
theorem dX9_entryAt_29 : decode cX9_entryAt 29 = .ok (.iconst 0, 1) := by decide +kernel
theorem dX9_entryAt_30 : decode cX9_entryAt 30 = .ok (.istore 6, 2) := by decide +kernel
theorem dX9_entryAt_32 : decode cX9_entryAt 32 = .ok (.iconst 0, 1) := by decide +kernel
theorem dX9_entryAt_33 : decode cX9_entryAt 33 = .ok (.istore 7, 2) := by decide +kernel
theorem dX9_entryAt_35 : decode cX9_entryAt 35 = .ok (.iload 7, 2) := by decide +kernel
theorem dX9_entryAt_37 : decode cX9_entryAt 37 = .ok (.iconst 4, 1) := by decide +kernel
theorem dX9_entryAt_38 : decode cX9_entryAt 38 = .ok (.if_icmp .ge 55, 3) := by decide +kernel
theorem dX9_entryAt_41 : decode cX9_entryAt 41 = .ok (.iload 6, 2) := by decide +kernel
theorem dX9_entryAt_43 : decode cX9_entryAt 43 = .ok (.ifCond .eq 50, 3) := by decide +kernel
theorem dX9_entryAt_46 : decode cX9_entryAt 46 = .ok (.aload_n 0, 1) := by decide +kernel
theorem dX9_entryAt_47 : decode cX9_entryAt 47 = .ok (.getfield 16, 3) := by decide +kernel
theorem dX9_entryAt_50 : decode cX9_entryAt 50 = .ok (.iconst 4, 1) := by decide +kernel
theorem dX9_entryAt_51 : decode cX9_entryAt 51 = .ok (.iload 5, 2) := by decide +kernel
theorem dX9_entryAt_53 : decode cX9_entryAt 53 = .ok (.imul, 1) := by decide +kernel
theorem dX9_entryAt_54 : decode cX9_entryAt 54 = .ok (.iload 7, 2) := by decide +kernel
theorem dX9_entryAt_56 : decode cX9_entryAt 56 = .ok (.iadd, 1) := by decide +kernel
theorem dX9_entryAt_57 : decode cX9_entryAt 57 = .ok (.iaload, 1) := by decide +kernel
theorem dX9_entryAt_58 : decode cX9_entryAt 58 = .ok (.iload 7, 2) := by decide +kernel
theorem dX9_entryAt_60 : decode cX9_entryAt 60 = .ok (.iload_n 2, 1) := by decide +kernel
theorem dX9_entryAt_61 : decode cX9_entryAt 61 = .ok (.if_icmp .ge 15, 3) := by decide +kernel
theorem dX9_entryAt_64 : decode cX9_entryAt 64 = .ok (.aload_n 0, 1) := by decide +kernel
theorem dX9_entryAt_65 : decode cX9_entryAt 65 = .ok (.getfield 59, 3) := by decide +kernel
theorem dX9_entryAt_68 : decode cX9_entryAt 68 = .ok (.iload_n 1, 1) := by decide +kernel
theorem dX9_entryAt_69 : decode cX9_entryAt 69 = .ok (.iload 7, 2) := by decide +kernel
theorem dX9_entryAt_71 : decode cX9_entryAt 71 = .ok (.iadd, 1) := by decide +kernel
theorem dX9_entryAt_72 : decode cX9_entryAt 72 = .ok (.iaload, 1) := by decide +kernel
theorem dX9_entryAt_73 : decode cX9_entryAt 73 = .ok (.goto 4, 3) := by decide +kernel
theorem dX9_entryAt_76 : decode cX9_entryAt 76 = .ok (.iconst (-1), 1) := by decide +kernel
theorem dX9_entryAt_77 : decode cX9_entryAt 77 = .ok (.if_icmp .ne 7, 3) := by decide +kernel
theorem dX9_entryAt_80 : decode cX9_entryAt 80 = .ok (.iconst 1, 1) := by decide +kernel
theorem dX9_entryAt_81 : decode cX9_entryAt 81 = .ok (.goto 4, 3) := by decide +kernel
theorem dX9_entryAt_84 : decode cX9_entryAt 84 = .ok (.iconst 0, 1) := by decide +kernel
theorem dX9_entryAt_85 : decode cX9_entryAt 85 = .ok (.istore 6, 2) := by decide +kernel
theorem dX9_entryAt_87 : decode cX9_entryAt 87 = .ok (.iinc 7 1, 3) := by decide +kernel
theorem dX9_entryAt_90 : decode cX9_entryAt 90 = .ok (.goto (-55), 3) := by decide +kernel
theorem dX9_entryAt_93 : decode cX9_entryAt 93 = .ok (.iload 6, 2) := by decide +kernel
theorem dX9_entryAt_95 : decode cX9_entryAt 95 = .ok (.ifCond .eq 31, 3) := by decide +kernel
theorem dX9_entryAt_98 : decode cX9_entryAt 98 = .ok (.aload_n 0, 1) := by decide +kernel
theorem dX9_entryAt_99 : decode cX9_entryAt 99 = .ok (.iload 5, 2) := by decide +kernel
theorem dX9_entryAt_101 : decode cX9_entryAt 101 = .ok (.iload_n 3, 1) := by decide +kernel
theorem dX9_entryAt_102 : decode cX9_entryAt 102 = .ok (.invokevirtual 205, 3) := by decide +kernel
theorem dX9_entryAt_105 : decode cX9_entryAt 105 = .ok (.invokestatic 208, 3) := by decide +kernel
theorem dX9_entryAt_108 : decode cX9_entryAt 108 = .ok (.aload_n 0, 1) := by decide +kernel
theorem dX9_entryAt_109 : decode cX9_entryAt 109 = .ok (.getfield 56, 3) := by decide +kernel
theorem dX9_entryAt_112 : decode cX9_entryAt 112 = .ok (.aload_n 0, 1) := by decide +kernel
theorem dX9_entryAt_113 : decode cX9_entryAt 113 = .ok (.iload_n 3, 1) := by decide +kernel
theorem dX9_entryAt_114 : decode cX9_entryAt 114 = .ok (.invokevirtual 199, 3) := by decide +kernel
theorem dX9_entryAt_117 : decode cX9_entryAt 117 = .ok (.iaload, 1) := by decide +kernel
theorem dX9_entryAt_118 : decode cX9_entryAt 118 = .ok (.if_icmp .lt 8, 3) := by decide +kernel
theorem dX9_entryAt_121 : decode cX9_entryAt 121 = .ok (.iload 5, 2) := by decide +kernel
theorem dX9_entryAt_123 : decode cX9_entryAt 123 = .ok (.goto 5, 3) := by decide +kernel
theorem dX9_entryAt_126 : decode cX9_entryAt 126 = .ok (.iload 4, 2) := by decide +kernel
theorem dX9_entryAt_128 : decode cX9_entryAt 128 = .ok (.istore 4, 2) := by decide +kernel
theorem dX9_entryAt_130 : decode cX9_entryAt 130 = .ok (.iinc 5 1, 3) := by decide +kernel
theorem dX9_entryAt_133 : decode cX9_entryAt 133 = .ok (.goto (-127), 3) := by decide +kernel
theorem dX9_entryAt_136 : decode cX9_entryAt 136 = .ok (.iload 4, 2) := by decide +kernel
theorem dX9_entryAt_138 : decode cX9_entryAt 138 = .ok (.ireturn, 1) := by decide +kernel
theorem dX9_plainAt_0 : decode cX9_plainAt 0 = .ok (.aload_n 0, 1) := by decide +kernel
theorem dX9_plainAt_1 : decode cX9_plainAt 1 = .ok (.getfield 7, 3) := by decide +kernel
theorem dX9_plainAt_4 : decode cX9_plainAt 4 = .ok (.aload_n 0, 1) := by decide +kernel
theorem dX9_plainAt_5 : decode cX9_plainAt 5 = .ok (.getfield 59, 3) := by decide +kernel
theorem dX9_plainAt_8 : decode cX9_plainAt 8 = .ok (.iload_n 1, 1) := by decide +kernel
theorem dX9_plainAt_9 : decode cX9_plainAt 9 = .ok (.iaload, 1) := by decide +kernel
theorem dX9_plainAt_10 : decode cX9_plainAt 10 = .ok (.iaload, 1) := by decide +kernel
theorem dX9_plainAt_11 : decode cX9_plainAt 11 = .ok (.iload_n 2, 1) := by decide +kernel
theorem dX9_plainAt_12 : decode cX9_plainAt 12 = .ok (.invokestatic 211, 3) := by decide +kernel
theorem dX9_plainAt_15 : decode cX9_plainAt 15 = .ok (.ireturn, 1) := by decide +kernel
theorem dX9_allPlain_0 : decode cX9_allPlain 0 = .ok (.iconst 0, 1) := by decide +kernel
theorem dX9_allPlain_1 : decode cX9_allPlain 1 = .ok (.istore_n 2, 1) := by decide +kernel
theorem dX9_allPlain_2 : decode cX9_allPlain 2 = .ok (.iconst 0, 1) := by decide +kernel
theorem dX9_allPlain_3 : decode cX9_allPlain 3 = .ok (.istore_n 3, 1) := by decide +kernel
theorem dX9_allPlain_4 : decode cX9_allPlain 4 = .ok (.iload_n 3, 1) := by decide +kernel
theorem dX9_allPlain_5 : decode cX9_allPlain 5 = .ok (.aload_n 0, 1) := by decide +kernel
theorem dX9_allPlain_6 : decode cX9_allPlain 6 = .ok (.getfield 202, 3) := by decide +kernel
theorem dX9_allPlain_9 : decode cX9_allPlain 9 = .ok (.if_icmp .ge 18, 3) := by decide +kernel
theorem dX9_allPlain_12 : decode cX9_allPlain 12 = .ok (.iload_n 2, 1) := by decide +kernel
theorem dX9_allPlain_13 : decode cX9_allPlain 13 = .ok (.aload_n 0, 1) := by decide +kernel
theorem dX9_allPlain_14 : decode cX9_allPlain 14 = .ok (.iload_n 3, 1) := by decide +kernel
theorem dX9_allPlain_15 : decode cX9_allPlain 15 = .ok (.iload_n 1, 1) := by decide +kernel
theorem dX9_allPlain_16 : decode cX9_allPlain 16 = .ok (.invokevirtual 214, 3) := by decide +kernel
theorem dX9_allPlain_19 : decode cX9_allPlain 19 = .ok (.iadd, 1) := by decide +kernel
theorem dX9_allPlain_20 : decode cX9_allPlain 20 = .ok (.istore_n 2, 1) := by decide +kernel
theorem dX9_allPlain_21 : decode cX9_allPlain 21 = .ok (.iinc 3 1, 3) := by decide +kernel
theorem dX9_allPlain_24 : decode cX9_allPlain 24 = .ok (.goto (-20), 3) := by decide +kernel
theorem dX9_allPlain_27 : decode cX9_allPlain 27 = .ok (.iload_n 2, 1) := by decide +kernel
theorem dX9_allPlain_28 : decode cX9_allPlain 28 = .ok (.ireturn, 1) := by decide +kernel
theorem dX9_reckons_0 : decode cX9_reckons 0 = .ok (.aload_n 0, 1) := by decide +kernel
theorem dX9_reckons_1 : decode cX9_reckons 1 = .ok (.getfield 53, 3) := by decide +kernel
theorem dX9_reckons_4 : decode cX9_reckons 4 = .ok (.aload_n 0, 1) := by decide +kernel
theorem dX9_reckons_5 : decode cX9_reckons 5 = .ok (.iload_n 1, 1) := by decide +kernel
theorem dX9_reckons_6 : decode cX9_reckons 6 = .ok (.invokevirtual 199, 3) := by decide +kernel
theorem dX9_reckons_9 : decode cX9_reckons 9 = .ok (.iaload, 1) := by decide +kernel
theorem dX9_reckons_10 : decode cX9_reckons 10 = .ok (.istore_n 2, 1) := by decide +kernel
theorem dX9_reckons_11 : decode cX9_reckons 11 = .ok (.aload_n 0, 1) := by decide +kernel
theorem dX9_reckons_12 : decode cX9_reckons 12 = .ok (.getfield 202, 3) := by decide +kernel
theorem dX9_reckons_15 : decode cX9_reckons 15 = .ok (.istore_n 3, 1) := by decide +kernel
theorem dX9_reckons_16 : decode cX9_reckons 16 = .ok (.iload_n 3, 1) := by decide +kernel
theorem dX9_reckons_17 : decode cX9_reckons 17 = .ok (.ifCond .lt 176, 3) := by decide +kernel
theorem dX9_reckons_20 : decode cX9_reckons 20 = .ok (.iconst 0, 1) := by decide +kernel
theorem dX9_reckons_21 : decode cX9_reckons 21 = .ok (.istore 4, 2) := by decide +kernel
theorem dX9_reckons_23 : decode cX9_reckons 23 = .ok (.iload 4, 2) := by decide +kernel
theorem dX9_reckons_25 : decode cX9_reckons 25 = .ok (.bipush 25, 2) := by decide +kernel
theorem dX9_reckons_27 : decode cX9_reckons 27 = .ok (.if_icmp .ge 160, 3) := by decide +kernel
theorem dX9_reckons_30 : decode cX9_reckons 30 = .ok (.iload_n 3, 1) := by decide +kernel
theorem dX9_reckons_31 : decode cX9_reckons 31 = .ok (.aload_n 0, 1) := by decide +kernel
theorem dX9_reckons_32 : decode cX9_reckons 32 = .ok (.getfield 202, 3) := by decide +kernel
theorem dX9_reckons_35 : decode cX9_reckons 35 = .ok (.if_icmp .ne 17, 3) := by decide +kernel
theorem dX9_reckons_38 : decode cX9_reckons 38 = .ok (.iload 4, 2) := by decide +kernel
theorem dX9_reckons_40 : decode cX9_reckons 40 = .ok (.ifCond .ne 7, 3) := by decide +kernel
theorem dX9_reckons_43 : decode cX9_reckons 43 = .ok (.iconst 0, 1) := by decide +kernel
theorem dX9_reckons_44 : decode cX9_reckons 44 = .ok (.goto 29, 3) := by decide +kernel
theorem dX9_reckons_47 : decode cX9_reckons 47 = .ok (.ldc 217, 2) := by decide +kernel
theorem dX9_reckons_49 : decode cX9_reckons 49 = .ok (.goto 24, 3) := by decide +kernel
theorem dX9_reckons_52 : decode cX9_reckons 52 = .ok (.aload_n 0, 1) := by decide +kernel
theorem dX9_reckons_53 : decode cX9_reckons 53 = .ok (.iload_n 3, 1) := by decide +kernel
theorem dX9_reckons_54 : decode cX9_reckons 54 = .ok (.iload_n 2, 1) := by decide +kernel
theorem dX9_reckons_55 : decode cX9_reckons 55 = .ok (.invokevirtual 214, 3) := by decide +kernel
theorem dX9_reckons_58 : decode cX9_reckons 58 = .ok (.aload_n 0, 1) := by decide +kernel
theorem dX9_reckons_59 : decode cX9_reckons 59 = .ok (.getfield 62, 3) := by decide +kernel
theorem dX9_reckons_62 : decode cX9_reckons 62 = .ok (.bipush 25, 2) := by decide +kernel
theorem dX9_reckons_64 : decode cX9_reckons 64 = .ok (.iload_n 3, 1) := by decide +kernel
theorem dX9_reckons_65 : decode cX9_reckons 65 = .ok (.iconst 1, 1) := by decide +kernel
theorem dX9_reckons_66 : decode cX9_reckons 66 = .ok (.iadd, 1) := by decide +kernel
theorem dX9_reckons_67 : decode cX9_reckons 67 = .ok (.imul, 1) := by decide +kernel
theorem dX9_reckons_68 : decode cX9_reckons 68 = .ok (.iload 4, 2) := by decide +kernel
theorem dX9_reckons_70 : decode cX9_reckons 70 = .ok (.iadd, 1) := by decide +kernel
theorem dX9_reckons_71 : decode cX9_reckons 71 = .ok (.iaload, 1) := by decide +kernel
theorem dX9_reckons_72 : decode cX9_reckons 72 = .ok (.iadd, 1) := by decide +kernel
theorem dX9_reckons_73 : decode cX9_reckons 73 = .ok (.istore 5, 2) := by decide +kernel
theorem dX9_reckons_75 : decode cX9_reckons 75 = .ok (.iconst 1, 1) := by decide +kernel
theorem dX9_reckons_76 : decode cX9_reckons 76 = .ok (.istore 6, 2) := by decide +kernel
theorem dX9_reckons_78 : decode cX9_reckons 78 = .ok (.iload 6, 2) := by decide +kernel
theorem dX9_reckons_80 : decode cX9_reckons 80 = .ok (.iconst 5, 1) := by decide +kernel
theorem dX9_reckons_81 : decode cX9_reckons 81 = .ok (.if_icmp .ge 74, 3) := by decide +kernel
theorem dX9_reckons_84 : decode cX9_reckons 84 = .ok (.iload_n 3, 1) := by decide +kernel
theorem dX9_reckons_85 : decode cX9_reckons 85 = .ok (.aload_n 0, 1) := by decide +kernel
theorem dX9_reckons_86 : decode cX9_reckons 86 = .ok (.getfield 202, 3) := by decide +kernel
theorem dX9_reckons_89 : decode cX9_reckons 89 = .ok (.if_icmp .ge 66, 3) := by decide +kernel
theorem dX9_reckons_92 : decode cX9_reckons 92 = .ok (.iload 4, 2) := by decide +kernel
theorem dX9_reckons_94 : decode cX9_reckons 94 = .ok (.ifCond .le 61, 3) := by decide +kernel
theorem dX9_reckons_97 : decode cX9_reckons 97 = .ok (.aload_n 0, 1) := by decide +kernel
theorem dX9_reckons_98 : decode cX9_reckons 98 = .ok (.iload_n 3, 1) := by decide +kernel
theorem dX9_reckons_99 : decode cX9_reckons 99 = .ok (.iload 6, 2) := by decide +kernel
theorem dX9_reckons_101 : decode cX9_reckons 101 = .ok (.iload_n 1, 1) := by decide +kernel
theorem dX9_reckons_102 : decode cX9_reckons 102 = .ok (.invokevirtual 218, 3) := by decide +kernel
theorem dX9_reckons_105 : decode cX9_reckons 105 = .ok (.iconst (-1), 1) := by decide +kernel
theorem dX9_reckons_106 : decode cX9_reckons 106 = .ok (.if_icmp .ne 8, 3) := by decide +kernel
theorem dX9_reckons_109 : decode cX9_reckons 109 = .ok (.ldc 217, 2) := by decide +kernel
theorem dX9_reckons_111 : decode cX9_reckons 111 = .ok (.goto 20, 3) := by decide +kernel
theorem dX9_reckons_114 : decode cX9_reckons 114 = .ok (.aload_n 0, 1) := by decide +kernel
theorem dX9_reckons_115 : decode cX9_reckons 115 = .ok (.getfield 62, 3) := by decide +kernel
theorem dX9_reckons_118 : decode cX9_reckons 118 = .ok (.bipush 25, 2) := by decide +kernel
theorem dX9_reckons_120 : decode cX9_reckons 120 = .ok (.iload_n 3, 1) := by decide +kernel
theorem dX9_reckons_121 : decode cX9_reckons 121 = .ok (.iload 6, 2) := by decide +kernel
theorem dX9_reckons_123 : decode cX9_reckons 123 = .ok (.iadd, 1) := by decide +kernel
theorem dX9_reckons_124 : decode cX9_reckons 124 = .ok (.imul, 1) := by decide +kernel
theorem dX9_reckons_125 : decode cX9_reckons 125 = .ok (.iload 4, 2) := by decide +kernel
theorem dX9_reckons_127 : decode cX9_reckons 127 = .ok (.iadd, 1) := by decide +kernel
theorem dX9_reckons_128 : decode cX9_reckons 128 = .ok (.iconst 1, 1) := by decide +kernel
theorem dX9_reckons_129 : decode cX9_reckons 129 = .ok (.isub, 1) := by decide +kernel
theorem dX9_reckons_130 : decode cX9_reckons 130 = .ok (.iaload, 1) := by decide +kernel
theorem dX9_reckons_131 : decode cX9_reckons 131 = .ok (.istore 7, 2) := by decide +kernel
theorem dX9_reckons_133 : decode cX9_reckons 133 = .ok (.iload 7, 2) := by decide +kernel
theorem dX9_reckons_135 : decode cX9_reckons 135 = .ok (.iload 5, 2) := by decide +kernel
theorem dX9_reckons_137 : decode cX9_reckons 137 = .ok (.if_icmp .ge 8, 3) := by decide +kernel
theorem dX9_reckons_140 : decode cX9_reckons 140 = .ok (.iload 7, 2) := by decide +kernel
theorem dX9_reckons_142 : decode cX9_reckons 142 = .ok (.goto 5, 3) := by decide +kernel
theorem dX9_reckons_145 : decode cX9_reckons 145 = .ok (.iload 5, 2) := by decide +kernel
theorem dX9_reckons_147 : decode cX9_reckons 147 = .ok (.istore 5, 2) := by decide +kernel
theorem dX9_reckons_149 : decode cX9_reckons 149 = .ok (.iinc 6 1, 3) := by decide +kernel
theorem dX9_reckons_152 : decode cX9_reckons 152 = .ok (.goto (-74), 3) := by decide +kernel
theorem dX9_reckons_155 : decode cX9_reckons 155 = .ok (.aload_n 0, 1) := by decide +kernel
theorem dX9_reckons_156 : decode cX9_reckons 156 = .ok (.getfield 62, 3) := by decide +kernel
theorem dX9_reckons_159 : decode cX9_reckons 159 = .ok (.bipush 25, 2) := by decide +kernel
theorem dX9_reckons_161 : decode cX9_reckons 161 = .ok (.iload_n 3, 1) := by decide +kernel
theorem dX9_reckons_162 : decode cX9_reckons 162 = .ok (.imul, 1) := by decide +kernel
theorem dX9_reckons_163 : decode cX9_reckons 163 = .ok (.iload 4, 2) := by decide +kernel
theorem dX9_reckons_165 : decode cX9_reckons 165 = .ok (.iadd, 1) := by decide +kernel
theorem dX9_reckons_166 : decode cX9_reckons 166 = .ok (.iload 5, 2) := by decide +kernel
theorem dX9_reckons_168 : decode cX9_reckons 168 = .ok (.ldc 217, 2) := by decide +kernel
theorem dX9_reckons_170 : decode cX9_reckons 170 = .ok (.if_icmp .le 8, 3) := by decide +kernel
theorem dX9_reckons_173 : decode cX9_reckons 173 = .ok (.ldc 217, 2) := by decide +kernel
theorem dX9_reckons_175 : decode cX9_reckons 175 = .ok (.goto 5, 3) := by decide +kernel
theorem dX9_reckons_178 : decode cX9_reckons 178 = .ok (.iload 5, 2) := by decide +kernel
theorem dX9_reckons_180 : decode cX9_reckons 180 = .ok (.iastore, 1) := by decide +kernel
theorem dX9_reckons_181 : decode cX9_reckons 181 = .ok (.iinc 4 1, 3) := by decide +kernel
theorem dX9_reckons_184 : decode cX9_reckons 184 = .ok (.goto (-161), 3) := by decide +kernel
theorem dX9_reckons_187 : decode cX9_reckons 187 = .ok (.iinc 3 (-1), 3) := by decide +kernel
theorem dX9_reckons_190 : decode cX9_reckons 190 = .ok (.goto (-174), 3) := by decide +kernel
theorem dX9_reckons_193 : decode cX9_reckons 193 = .ok (.return_, 1) := by decide +kernel
theorem dX9_cuts_0 : decode cX9_cuts 0 = .ok (.aload_n 0, 1) := by decide +kernel
theorem dX9_cuts_1 : decode cX9_cuts 1 = .ok (.getfield 53, 3) := by decide +kernel
theorem dX9_cuts_4 : decode cX9_cuts 4 = .ok (.aload_n 0, 1) := by decide +kernel
theorem dX9_cuts_5 : decode cX9_cuts 5 = .ok (.iload_n 1, 1) := by decide +kernel
theorem dX9_cuts_6 : decode cX9_cuts 6 = .ok (.invokevirtual 199, 3) := by decide +kernel
theorem dX9_cuts_9 : decode cX9_cuts 9 = .ok (.iaload, 1) := by decide +kernel
theorem dX9_cuts_10 : decode cX9_cuts 10 = .ok (.istore_n 3, 1) := by decide +kernel
theorem dX9_cuts_11 : decode cX9_cuts 11 = .ok (.iconst 0, 1) := by decide +kernel
theorem dX9_cuts_12 : decode cX9_cuts 12 = .ok (.istore 4, 2) := by decide +kernel
theorem dX9_cuts_14 : decode cX9_cuts 14 = .ok (.iload_n 2, 1) := by decide +kernel
theorem dX9_cuts_15 : decode cX9_cuts 15 = .ok (.istore 5, 2) := by decide +kernel
theorem dX9_cuts_17 : decode cX9_cuts 17 = .ok (.aload_n 0, 1) := by decide +kernel
theorem dX9_cuts_18 : decode cX9_cuts 18 = .ok (.iconst 0, 1) := by decide +kernel
theorem dX9_cuts_19 : decode cX9_cuts 19 = .ok (.putfield 222, 3) := by decide +kernel
theorem dX9_cuts_22 : decode cX9_cuts 22 = .ok (.iload 4, 2) := by decide +kernel
theorem dX9_cuts_24 : decode cX9_cuts 24 = .ok (.aload_n 0, 1) := by decide +kernel
theorem dX9_cuts_25 : decode cX9_cuts 25 = .ok (.getfield 202, 3) := by decide +kernel
theorem dX9_cuts_28 : decode cX9_cuts 28 = .ok (.if_icmp .ge 178, 3) := by decide +kernel
theorem dX9_cuts_31 : decode cX9_cuts 31 = .ok (.iconst 0, 1) := by decide +kernel
theorem dX9_cuts_32 : decode cX9_cuts 32 = .ok (.istore 6, 2) := by decide +kernel
theorem dX9_cuts_34 : decode cX9_cuts 34 = .ok (.iconst 4, 1) := by decide +kernel
theorem dX9_cuts_35 : decode cX9_cuts 35 = .ok (.istore 7, 2) := by decide +kernel
theorem dX9_cuts_37 : decode cX9_cuts 37 = .ok (.iload 7, 2) := by decide +kernel
theorem dX9_cuts_39 : decode cX9_cuts 39 = .ok (.ifCond .le 86, 3) := by decide +kernel
theorem dX9_cuts_42 : decode cX9_cuts 42 = .ok (.iload 6, 2) := by decide +kernel
theorem dX9_cuts_44 : decode cX9_cuts 44 = .ok (.ifCond .ne 81, 3) := by decide +kernel
theorem dX9_cuts_47 : decode cX9_cuts 47 = .ok (.iload 5, 2) := by decide +kernel
theorem dX9_cuts_49 : decode cX9_cuts 49 = .ok (.ifCond .le 76, 3) := by decide +kernel
theorem dX9_cuts_52 : decode cX9_cuts 52 = .ok (.aload_n 0, 1) := by decide +kernel
theorem dX9_cuts_53 : decode cX9_cuts 53 = .ok (.iload 4, 2) := by decide +kernel
theorem dX9_cuts_55 : decode cX9_cuts 55 = .ok (.iload 7, 2) := by decide +kernel
theorem dX9_cuts_57 : decode cX9_cuts 57 = .ok (.iload_n 1, 1) := by decide +kernel
theorem dX9_cuts_58 : decode cX9_cuts 58 = .ok (.invokevirtual 218, 3) := by decide +kernel
theorem dX9_cuts_61 : decode cX9_cuts 61 = .ok (.iconst (-1), 1) := by decide +kernel
theorem dX9_cuts_62 : decode cX9_cuts 62 = .ok (.if_icmp .eq 41, 3) := by decide +kernel
theorem dX9_cuts_65 : decode cX9_cuts 65 = .ok (.aload_n 0, 1) := by decide +kernel
theorem dX9_cuts_66 : decode cX9_cuts 66 = .ok (.getfield 62, 3) := by decide +kernel
theorem dX9_cuts_69 : decode cX9_cuts 69 = .ok (.bipush 25, 2) := by decide +kernel
theorem dX9_cuts_71 : decode cX9_cuts 71 = .ok (.iload 4, 2) := by decide +kernel
theorem dX9_cuts_73 : decode cX9_cuts 73 = .ok (.iload 7, 2) := by decide +kernel
theorem dX9_cuts_75 : decode cX9_cuts 75 = .ok (.iadd, 1) := by decide +kernel
theorem dX9_cuts_76 : decode cX9_cuts 76 = .ok (.imul, 1) := by decide +kernel
theorem dX9_cuts_77 : decode cX9_cuts 77 = .ok (.iload 5, 2) := by decide +kernel
theorem dX9_cuts_79 : decode cX9_cuts 79 = .ok (.iadd, 1) := by decide +kernel
theorem dX9_cuts_80 : decode cX9_cuts 80 = .ok (.iconst 1, 1) := by decide +kernel
theorem dX9_cuts_81 : decode cX9_cuts 81 = .ok (.isub, 1) := by decide +kernel
theorem dX9_cuts_82 : decode cX9_cuts 82 = .ok (.iaload, 1) := by decide +kernel
theorem dX9_cuts_83 : decode cX9_cuts 83 = .ok (.aload_n 0, 1) := by decide +kernel
theorem dX9_cuts_84 : decode cX9_cuts 84 = .ok (.getfield 62, 3) := by decide +kernel
theorem dX9_cuts_87 : decode cX9_cuts 87 = .ok (.bipush 25, 2) := by decide +kernel
theorem dX9_cuts_89 : decode cX9_cuts 89 = .ok (.iload 4, 2) := by decide +kernel
theorem dX9_cuts_91 : decode cX9_cuts 91 = .ok (.imul, 1) := by decide +kernel
theorem dX9_cuts_92 : decode cX9_cuts 92 = .ok (.iload 5, 2) := by decide +kernel
theorem dX9_cuts_94 : decode cX9_cuts 94 = .ok (.iadd, 1) := by decide +kernel
theorem dX9_cuts_95 : decode cX9_cuts 95 = .ok (.iaload, 1) := by decide +kernel
theorem dX9_cuts_96 : decode cX9_cuts 96 = .ok (.if_icmp .ne 7, 3) := by decide +kernel
theorem dX9_cuts_99 : decode cX9_cuts 99 = .ok (.iconst 1, 1) := by decide +kernel
theorem dX9_cuts_100 : decode cX9_cuts 100 = .ok (.goto 4, 3) := by decide +kernel
theorem dX9_cuts_103 : decode cX9_cuts 103 = .ok (.iconst 0, 1) := by decide +kernel
theorem dX9_cuts_104 : decode cX9_cuts 104 = .ok (.istore 8, 2) := by decide +kernel
theorem dX9_cuts_106 : decode cX9_cuts 106 = .ok (.iload 8, 2) := by decide +kernel
theorem dX9_cuts_108 : decode cX9_cuts 108 = .ok (.ifCond .eq 8, 3) := by decide +kernel
theorem dX9_cuts_111 : decode cX9_cuts 111 = .ok (.iload 7, 2) := by decide +kernel
theorem dX9_cuts_113 : decode cX9_cuts 113 = .ok (.goto 4, 3) := by decide +kernel
theorem dX9_cuts_116 : decode cX9_cuts 116 = .ok (.iconst 0, 1) := by decide +kernel
theorem dX9_cuts_117 : decode cX9_cuts 117 = .ok (.istore 6, 2) := by decide +kernel
theorem dX9_cuts_119 : decode cX9_cuts 119 = .ok (.iinc 7 (-1), 3) := by decide +kernel
theorem dX9_cuts_122 : decode cX9_cuts 122 = .ok (.goto (-85), 3) := by decide +kernel
theorem dX9_cuts_125 : decode cX9_cuts 125 = .ok (.aload_n 0, 1) := by decide +kernel
theorem dX9_cuts_126 : decode cX9_cuts 126 = .ok (.getfield 65, 3) := by decide +kernel
theorem dX9_cuts_129 : decode cX9_cuts 129 = .ok (.aload_n 0, 1) := by decide +kernel
theorem dX9_cuts_130 : decode cX9_cuts 130 = .ok (.getfield 222, 3) := by decide +kernel
theorem dX9_cuts_133 : decode cX9_cuts 133 = .ok (.iload 6, 2) := by decide +kernel
theorem dX9_cuts_135 : decode cX9_cuts 135 = .ok (.ifCond .le 15, 3) := by decide +kernel
theorem dX9_cuts_138 : decode cX9_cuts 138 = .ok (.aload_n 0, 1) := by decide +kernel
theorem dX9_cuts_139 : decode cX9_cuts 139 = .ok (.iload 4, 2) := by decide +kernel
theorem dX9_cuts_141 : decode cX9_cuts 141 = .ok (.iload 6, 2) := by decide +kernel
theorem dX9_cuts_143 : decode cX9_cuts 143 = .ok (.iload_n 1, 1) := by decide +kernel
theorem dX9_cuts_144 : decode cX9_cuts 144 = .ok (.invokevirtual 218, 3) := by decide +kernel
theorem dX9_cuts_147 : decode cX9_cuts 147 = .ok (.goto 14, 3) := by decide +kernel
theorem dX9_cuts_150 : decode cX9_cuts 150 = .ok (.iconst (-1), 1) := by decide +kernel
theorem dX9_cuts_151 : decode cX9_cuts 151 = .ok (.aload_n 0, 1) := by decide +kernel
theorem dX9_cuts_152 : decode cX9_cuts 152 = .ok (.getfield 59, 3) := by decide +kernel
theorem dX9_cuts_155 : decode cX9_cuts 155 = .ok (.iload 4, 2) := by decide +kernel
theorem dX9_cuts_157 : decode cX9_cuts 157 = .ok (.iaload, 1) := by decide +kernel
theorem dX9_cuts_158 : decode cX9_cuts 158 = .ok (.isub, 1) := by decide +kernel
theorem dX9_cuts_159 : decode cX9_cuts 159 = .ok (.iconst 1, 1) := by decide +kernel
theorem dX9_cuts_160 : decode cX9_cuts 160 = .ok (.isub, 1) := by decide +kernel
theorem dX9_cuts_161 : decode cX9_cuts 161 = .ok (.iastore, 1) := by decide +kernel
theorem dX9_cuts_162 : decode cX9_cuts 162 = .ok (.iload 5, 2) := by decide +kernel
theorem dX9_cuts_164 : decode cX9_cuts 164 = .ok (.iload 6, 2) := by decide +kernel
theorem dX9_cuts_166 : decode cX9_cuts 166 = .ok (.ifCond .le 7, 3) := by decide +kernel
theorem dX9_cuts_169 : decode cX9_cuts 169 = .ok (.iconst 1, 1) := by decide +kernel
theorem dX9_cuts_170 : decode cX9_cuts 170 = .ok (.goto 4, 3) := by decide +kernel
theorem dX9_cuts_173 : decode cX9_cuts 173 = .ok (.iconst 0, 1) := by decide +kernel
theorem dX9_cuts_174 : decode cX9_cuts 174 = .ok (.isub, 1) := by decide +kernel
theorem dX9_cuts_175 : decode cX9_cuts 175 = .ok (.istore 5, 2) := by decide +kernel
theorem dX9_cuts_177 : decode cX9_cuts 177 = .ok (.iload 4, 2) := by decide +kernel
theorem dX9_cuts_179 : decode cX9_cuts 179 = .ok (.iload 6, 2) := by decide +kernel
theorem dX9_cuts_181 : decode cX9_cuts 181 = .ok (.ifCond .le 8, 3) := by decide +kernel
theorem dX9_cuts_184 : decode cX9_cuts 184 = .ok (.iload 6, 2) := by decide +kernel
theorem dX9_cuts_186 : decode cX9_cuts 186 = .ok (.goto 4, 3) := by decide +kernel
theorem dX9_cuts_189 : decode cX9_cuts 189 = .ok (.iconst 1, 1) := by decide +kernel
theorem dX9_cuts_190 : decode cX9_cuts 190 = .ok (.iadd, 1) := by decide +kernel
theorem dX9_cuts_191 : decode cX9_cuts 191 = .ok (.istore 4, 2) := by decide +kernel
theorem dX9_cuts_193 : decode cX9_cuts 193 = .ok (.aload_n 0, 1) := by decide +kernel
theorem dX9_cuts_194 : decode cX9_cuts 194 = .ok (.dup, 1) := by decide +kernel
theorem dX9_cuts_195 : decode cX9_cuts 195 = .ok (.getfield 222, 3) := by decide +kernel
theorem dX9_cuts_198 : decode cX9_cuts 198 = .ok (.iconst 1, 1) := by decide +kernel
theorem dX9_cuts_199 : decode cX9_cuts 199 = .ok (.iadd, 1) := by decide +kernel
theorem dX9_cuts_200 : decode cX9_cuts 200 = .ok (.putfield 222, 3) := by decide +kernel
theorem dX9_cuts_203 : decode cX9_cuts 203 = .ok (.goto (-181), 3) := by decide +kernel
theorem dX9_cuts_206 : decode cX9_cuts 206 = .ok (.return_, 1) := by decide +kernel
theorem dX9_packs_0 : decode cX9_packs 0 = .ok (.aload_n 0, 1) := by decide +kernel
theorem dX9_packs_1 : decode cX9_packs 1 = .ok (.iload_n 1, 1) := by decide +kernel
theorem dX9_packs_2 : decode cX9_packs 2 = .ok (.invokevirtual 199, 3) := by decide +kernel
theorem dX9_packs_5 : decode cX9_packs 5 = .ok (.istore_n 3, 1) := by decide +kernel
theorem dX9_packs_6 : decode cX9_packs 6 = .ok (.aload_n 0, 1) := by decide +kernel
theorem dX9_packs_7 : decode cX9_packs 7 = .ok (.aload_n 0, 1) := by decide +kernel
theorem dX9_packs_8 : decode cX9_packs 8 = .ok (.aload_n 0, 1) := by decide +kernel
theorem dX9_packs_9 : decode cX9_packs 9 = .ok (.getfield 50, 3) := by decide +kernel
theorem dX9_packs_12 : decode cX9_packs 12 = .ok (.iload_n 3, 1) := by decide +kernel
theorem dX9_packs_13 : decode cX9_packs 13 = .ok (.iaload, 1) := by decide +kernel
theorem dX9_packs_14 : decode cX9_packs 14 = .ok (.invokevirtual 225, 3) := by decide +kernel
theorem dX9_packs_17 : decode cX9_packs 17 = .ok (.putfield 228, 3) := by decide +kernel
theorem dX9_packs_20 : decode cX9_packs 20 = .ok (.iconst 0, 1) := by decide +kernel
theorem dX9_packs_21 : decode cX9_packs 21 = .ok (.istore 4, 2) := by decide +kernel
theorem dX9_packs_23 : decode cX9_packs 23 = .ok (.iload_n 2, 1) := by decide +kernel
theorem dX9_packs_24 : decode cX9_packs 24 = .ok (.ifCond .eq 111, 3) := by decide +kernel
theorem dX9_packs_27 : decode cX9_packs 27 = .ok (.aload_n 0, 1) := by decide +kernel
theorem dX9_packs_28 : decode cX9_packs 28 = .ok (.getfield 168, 3) := by decide +kernel
theorem dX9_packs_31 : decode cX9_packs 31 = .ok (.ifCond .le 104, 3) := by decide +kernel
theorem dX9_packs_34 : decode cX9_packs 34 = .ok (.aload_n 0, 1) := by decide +kernel
theorem dX9_packs_35 : decode cX9_packs 35 = .ok (.iload_n 1, 1) := by decide +kernel
theorem dX9_packs_36 : decode cX9_packs 36 = .ok (.invokevirtual 231, 3) := by decide +kernel
theorem dX9_packs_39 : decode cX9_packs 39 = .ok (.iconst 1, 1) := by decide +kernel
theorem dX9_packs_40 : decode cX9_packs 40 = .ok (.istore 5, 2) := by decide +kernel
theorem dX9_packs_42 : decode cX9_packs 42 = .ok (.iload 5, 2) := by decide +kernel
theorem dX9_packs_44 : decode cX9_packs 44 = .ok (.bipush 25, 2) := by decide +kernel
theorem dX9_packs_46 : decode cX9_packs 46 = .ok (.if_icmp .ge 89, 3) := by decide +kernel
theorem dX9_packs_49 : decode cX9_packs 49 = .ok (.aload_n 0, 1) := by decide +kernel
theorem dX9_packs_50 : decode cX9_packs 50 = .ok (.getfield 62, 3) := by decide +kernel
theorem dX9_packs_53 : decode cX9_packs 53 = .ok (.iload 5, 2) := by decide +kernel
theorem dX9_packs_55 : decode cX9_packs 55 = .ok (.iaload, 1) := by decide +kernel
theorem dX9_packs_56 : decode cX9_packs 56 = .ok (.ldc 217, 2) := by decide +kernel
theorem dX9_packs_58 : decode cX9_packs 58 = .ok (.if_icmp .lt 8, 3) := by decide +kernel
theorem dX9_packs_61 : decode cX9_packs 61 = .ok (.ldc 217, 2) := by decide +kernel
theorem dX9_packs_63 : decode cX9_packs 63 = .ok (.goto 24, 3) := by decide +kernel
theorem dX9_packs_66 : decode cX9_packs 66 = .ok (.aload_n 0, 1) := by decide +kernel
theorem dX9_packs_67 : decode cX9_packs 67 = .ok (.getfield 62, 3) := by decide +kernel
theorem dX9_packs_70 : decode cX9_packs 70 = .ok (.iload 5, 2) := by decide +kernel
theorem dX9_packs_72 : decode cX9_packs 72 = .ok (.iaload, 1) := by decide +kernel
theorem dX9_packs_73 : decode cX9_packs 73 = .ok (.iconst 5, 1) := by decide +kernel
theorem dX9_packs_74 : decode cX9_packs 74 = .ok (.iload 5, 2) := by decide +kernel
theorem dX9_packs_76 : decode cX9_packs 76 = .ok (.imul, 1) := by decide +kernel
theorem dX9_packs_77 : decode cX9_packs 77 = .ok (.aload_n 0, 1) := by decide +kernel
theorem dX9_packs_78 : decode cX9_packs 78 = .ok (.getfield 53, 3) := by decide +kernel
theorem dX9_packs_81 : decode cX9_packs 81 = .ok (.iload_n 3, 1) := by decide +kernel
theorem dX9_packs_82 : decode cX9_packs 82 = .ok (.iaload, 1) := by decide +kernel
theorem dX9_packs_83 : decode cX9_packs 83 = .ok (.invokestatic 211, 3) := by decide +kernel
theorem dX9_packs_86 : decode cX9_packs 86 = .ok (.iadd, 1) := by decide +kernel
theorem dX9_packs_87 : decode cX9_packs 87 = .ok (.istore 6, 2) := by decide +kernel
theorem dX9_packs_89 : decode cX9_packs 89 = .ok (.iload 6, 2) := by decide +kernel
theorem dX9_packs_91 : decode cX9_packs 91 = .ok (.aload_n 0, 1) := by decide +kernel
theorem dX9_packs_92 : decode cX9_packs 92 = .ok (.getfield 228, 3) := by decide +kernel
theorem dX9_packs_95 : decode cX9_packs 95 = .ok (.if_icmp .ge 8, 3) := by decide +kernel
theorem dX9_packs_98 : decode cX9_packs 98 = .ok (.iload 5, 2) := by decide +kernel
theorem dX9_packs_100 : decode cX9_packs 100 = .ok (.goto 5, 3) := by decide +kernel
theorem dX9_packs_103 : decode cX9_packs 103 = .ok (.iload 4, 2) := by decide +kernel
theorem dX9_packs_105 : decode cX9_packs 105 = .ok (.istore 4, 2) := by decide +kernel
theorem dX9_packs_107 : decode cX9_packs 107 = .ok (.aload_n 0, 1) := by decide +kernel
theorem dX9_packs_108 : decode cX9_packs 108 = .ok (.iload 6, 2) := by decide +kernel
theorem dX9_packs_110 : decode cX9_packs 110 = .ok (.aload_n 0, 1) := by decide +kernel
theorem dX9_packs_111 : decode cX9_packs 111 = .ok (.getfield 228, 3) := by decide +kernel
theorem dX9_packs_114 : decode cX9_packs 114 = .ok (.if_icmp .ge 8, 3) := by decide +kernel
theorem dX9_packs_117 : decode cX9_packs 117 = .ok (.iload 6, 2) := by decide +kernel
theorem dX9_packs_119 : decode cX9_packs 119 = .ok (.goto 7, 3) := by decide +kernel
theorem dX9_packs_122 : decode cX9_packs 122 = .ok (.aload_n 0, 1) := by decide +kernel
theorem dX9_packs_123 : decode cX9_packs 123 = .ok (.getfield 228, 3) := by decide +kernel
theorem dX9_packs_126 : decode cX9_packs 126 = .ok (.putfield 228, 3) := by decide +kernel
theorem dX9_packs_129 : decode cX9_packs 129 = .ok (.iinc 5 1, 3) := by decide +kernel
theorem dX9_packs_132 : decode cX9_packs 132 = .ok (.goto (-90), 3) := by decide +kernel
theorem dX9_packs_135 : decode cX9_packs 135 = .ok (.aload_n 0, 1) := by decide +kernel
theorem dX9_packs_136 : decode cX9_packs 136 = .ok (.iload_n 1, 1) := by decide +kernel
theorem dX9_packs_137 : decode cX9_packs 137 = .ok (.iload 4, 2) := by decide +kernel
theorem dX9_packs_139 : decode cX9_packs 139 = .ok (.invokevirtual 235, 3) := by decide +kernel
theorem dX9_packs_142 : decode cX9_packs 142 = .ok (.return_, 1) := by decide +kernel
theorem dX9_draft_0 : decode cX9_draft 0 = .ok (.aload_n 0, 1) := by decide +kernel
theorem dX9_draft_1 : decode cX9_draft 1 = .ok (.aload_n 0, 1) := by decide +kernel
theorem dX9_draft_2 : decode cX9_draft 2 = .ok (.iload_n 1, 1) := by decide +kernel
theorem dX9_draft_3 : decode cX9_draft 3 = .ok (.invokevirtual 158, 3) := by decide +kernel
theorem dX9_draft_6 : decode cX9_draft 6 = .ok (.invokevirtual 150, 3) := by decide +kernel
theorem dX9_draft_9 : decode cX9_draft 9 = .ok (.ifCond .ne 5, 3) := by decide +kernel
theorem dX9_draft_12 : decode cX9_draft 12 = .ok (.iconst 0, 1) := by decide +kernel
theorem dX9_draft_13 : decode cX9_draft 13 = .ok (.ireturn, 1) := by decide +kernel
theorem dX9_draft_14 : decode cX9_draft 14 = .ok (.aload_n 0, 1) := by decide +kernel
theorem dX9_draft_15 : decode cX9_draft 15 = .ok (.getfield 202, 3) := by decide +kernel
theorem dX9_draft_18 : decode cX9_draft 18 = .ok (.bipush 24, 2) := by decide +kernel
theorem dX9_draft_20 : decode cX9_draft 20 = .ok (.if_icmp .ne 9, 3) := by decide +kernel
theorem dX9_draft_23 : decode cX9_draft 23 = .ok (.aload_n 0, 1) := by decide +kernel
theorem dX9_draft_24 : decode cX9_draft 24 = .ok (.iconst 2, 1) := by decide +kernel
theorem dX9_draft_25 : decode cX9_draft 25 = .ok (.invokevirtual 154, 3) := by decide +kernel
theorem dX9_draft_28 : decode cX9_draft 28 = .ok (.ireturn, 1) := by decide +kernel
theorem dX9_draft_29 : decode cX9_draft 29 = .ok (.aload_n 0, 1) := by decide +kernel
theorem dX9_draft_30 : decode cX9_draft 30 = .ok (.getfield 59, 3) := by decide +kernel
theorem dX9_draft_33 : decode cX9_draft 33 = .ok (.aload_n 0, 1) := by decide +kernel
theorem dX9_draft_34 : decode cX9_draft 34 = .ok (.getfield 202, 3) := by decide +kernel
theorem dX9_draft_37 : decode cX9_draft 37 = .ok (.iload_n 1, 1) := by decide +kernel
theorem dX9_draft_38 : decode cX9_draft 38 = .ok (.iastore, 1) := by decide +kernel
theorem dX9_draft_39 : decode cX9_draft 39 = .ok (.aload_n 0, 1) := by decide +kernel
theorem dX9_draft_40 : decode cX9_draft 40 = .ok (.dup, 1) := by decide +kernel
theorem dX9_draft_41 : decode cX9_draft 41 = .ok (.getfield 202, 3) := by decide +kernel
theorem dX9_draft_44 : decode cX9_draft 44 = .ok (.iconst 1, 1) := by decide +kernel
theorem dX9_draft_45 : decode cX9_draft 45 = .ok (.iadd, 1) := by decide +kernel
theorem dX9_draft_46 : decode cX9_draft 46 = .ok (.putfield 202, 3) := by decide +kernel
theorem dX9_draft_49 : decode cX9_draft 49 = .ok (.aload_n 0, 1) := by decide +kernel
theorem dX9_draft_50 : decode cX9_draft 50 = .ok (.getfield 202, 3) := by decide +kernel
theorem dX9_draft_53 : decode cX9_draft 53 = .ok (.ireturn, 1) := by decide +kernel
theorem dX9_words_0 : decode cX9_words 0 = .ok (.aload_n 0, 1) := by decide +kernel
theorem dX9_words_1 : decode cX9_words 1 = .ok (.aload_n 0, 1) := by decide +kernel
theorem dX9_words_2 : decode cX9_words 2 = .ok (.iload_n 1, 1) := by decide +kernel
theorem dX9_words_3 : decode cX9_words 3 = .ok (.invokevirtual 184, 3) := by decide +kernel
theorem dX9_words_6 : decode cX9_words 6 = .ok (.invokevirtual 150, 3) := by decide +kernel
theorem dX9_words_9 : decode cX9_words 9 = .ok (.ifCond .ne 5, 3) := by decide +kernel
theorem dX9_words_12 : decode cX9_words 12 = .ok (.iconst 0, 1) := by decide +kernel
theorem dX9_words_13 : decode cX9_words 13 = .ok (.ireturn, 1) := by decide +kernel
theorem dX9_words_14 : decode cX9_words 14 = .ok (.aload_n 0, 1) := by decide +kernel
theorem dX9_words_15 : decode cX9_words 15 = .ok (.iload_n 1, 1) := by decide +kernel
theorem dX9_words_16 : decode cX9_words 16 = .ok (.iload_n 2, 1) := by decide +kernel
theorem dX9_words_17 : decode cX9_words 17 = .ok (.invokevirtual 238, 3) := by decide +kernel
theorem dX9_words_20 : decode cX9_words 20 = .ok (.aload_n 0, 1) := by decide +kernel
theorem dX9_words_21 : decode cX9_words 21 = .ok (.getfield 228, 3) := by decide +kernel
theorem dX9_words_24 : decode cX9_words 24 = .ok (.ireturn, 1) := by decide +kernel
theorem dX9_end_0 : decode cX9_end 0 = .ok (.aload_n 0, 1) := by decide +kernel
theorem dX9_end_1 : decode cX9_end 1 = .ok (.getfield 32, 3) := by decide +kernel
theorem dX9_end_4 : decode cX9_end 4 = .ok (.iload_n 1, 1) := by decide +kernel
theorem dX9_end_5 : decode cX9_end 5 = .ok (.iaload, 1) := by decide +kernel
theorem dX9_end_6 : decode cX9_end 6 = .ok (.iload_n 2, 1) := by decide +kernel
theorem dX9_end_7 : decode cX9_end 7 = .ok (.if_icmp .ne 12, 3) := by decide +kernel
theorem dX9_end_10 : decode cX9_end 10 = .ok (.aload_n 0, 1) := by decide +kernel
theorem dX9_end_11 : decode cX9_end 11 = .ok (.getfield 35, 3) := by decide +kernel
theorem dX9_end_14 : decode cX9_end 14 = .ok (.iload_n 1, 1) := by decide +kernel
theorem dX9_end_15 : decode cX9_end 15 = .ok (.iaload, 1) := by decide +kernel
theorem dX9_end_16 : decode cX9_end 16 = .ok (.goto 23, 3) := by decide +kernel
theorem dX9_end_19 : decode cX9_end 19 = .ok (.aload_n 0, 1) := by decide +kernel
theorem dX9_end_20 : decode cX9_end 20 = .ok (.getfield 35, 3) := by decide +kernel
theorem dX9_end_23 : decode cX9_end 23 = .ok (.iload_n 1, 1) := by decide +kernel
theorem dX9_end_24 : decode cX9_end 24 = .ok (.iaload, 1) := by decide +kernel
theorem dX9_end_25 : decode cX9_end 25 = .ok (.iload_n 2, 1) := by decide +kernel
theorem dX9_end_26 : decode cX9_end 26 = .ok (.if_icmp .ne 12, 3) := by decide +kernel
theorem dX9_end_29 : decode cX9_end 29 = .ok (.aload_n 0, 1) := by decide +kernel
theorem dX9_end_30 : decode cX9_end 30 = .ok (.getfield 32, 3) := by decide +kernel
theorem dX9_end_33 : decode cX9_end 33 = .ok (.iload_n 1, 1) := by decide +kernel
theorem dX9_end_34 : decode cX9_end 34 = .ok (.iaload, 1) := by decide +kernel
theorem dX9_end_35 : decode cX9_end 35 = .ok (.goto 4, 3) := by decide +kernel
theorem dX9_end_38 : decode cX9_end 38 = .ok (.iconst (-1), 1) := by decide +kernel
theorem dX9_end_39 : decode cX9_end 39 = .ok (.ireturn, 1) := by decide +kernel
theorem dX9_reaches_0 : decode cX9_reaches 0 = .ok (.iconst 0, 1) := by decide +kernel
theorem dX9_reaches_1 : decode cX9_reaches 1 = .ok (.istore_n 2, 1) := by decide +kernel
theorem dX9_reaches_2 : decode cX9_reaches 2 = .ok (.iload_n 2, 1) := by decide +kernel
theorem dX9_reaches_3 : decode cX9_reaches 3 = .ok (.bipush 8, 2) := by decide +kernel
theorem dX9_reaches_5 : decode cX9_reaches 5 = .ok (.if_icmp .ge 26, 3) := by decide +kernel
theorem dX9_reaches_8 : decode cX9_reaches 8 = .ok (.aload_n 0, 1) := by decide +kernel
theorem dX9_reaches_9 : decode cX9_reaches 9 = .ok (.getfield 116, 3) := by decide +kernel
theorem dX9_reaches_12 : decode cX9_reaches 12 = .ok (.iload_n 2, 1) := by decide +kernel
theorem dX9_reaches_13 : decode cX9_reaches 13 = .ok (.iload_n 2, 1) := by decide +kernel
theorem dX9_reaches_14 : decode cX9_reaches 14 = .ok (.iload_n 1, 1) := by decide +kernel
theorem dX9_reaches_15 : decode cX9_reaches 15 = .ok (.if_icmp .ne 7, 3) := by decide +kernel
theorem dX9_reaches_18 : decode cX9_reaches 18 = .ok (.iconst 0, 1) := by decide +kernel
theorem dX9_reaches_19 : decode cX9_reaches 19 = .ok (.goto 5, 3) := by decide +kernel
theorem dX9_reaches_22 : decode cX9_reaches 22 = .ok (.ldc 217, 2) := by decide +kernel
theorem dX9_reaches_24 : decode cX9_reaches 24 = .ok (.iastore, 1) := by decide +kernel
theorem dX9_reaches_25 : decode cX9_reaches 25 = .ok (.iinc 2 1, 3) := by decide +kernel
theorem dX9_reaches_28 : decode cX9_reaches 28 = .ok (.goto (-26), 3) := by decide +kernel
theorem dX9_reaches_31 : decode cX9_reaches 31 = .ok (.iconst 0, 1) := by decide +kernel
theorem dX9_reaches_32 : decode cX9_reaches 32 = .ok (.istore_n 2, 1) := by decide +kernel
theorem dX9_reaches_33 : decode cX9_reaches 33 = .ok (.iload_n 2, 1) := by decide +kernel
theorem dX9_reaches_34 : decode cX9_reaches 34 = .ok (.bipush 8, 2) := by decide +kernel
theorem dX9_reaches_36 : decode cX9_reaches 36 = .ok (.if_icmp .ge 162, 3) := by decide +kernel
theorem dX9_reaches_39 : decode cX9_reaches 39 = .ok (.iconst 0, 1) := by decide +kernel
theorem dX9_reaches_40 : decode cX9_reaches 40 = .ok (.istore_n 3, 1) := by decide +kernel
theorem dX9_reaches_41 : decode cX9_reaches 41 = .ok (.iload_n 3, 1) := by decide +kernel
theorem dX9_reaches_42 : decode cX9_reaches 42 = .ok (.aload_n 0, 1) := by decide +kernel
theorem dX9_reaches_43 : decode cX9_reaches 43 = .ok (.getfield 136, 3) := by decide +kernel
theorem dX9_reaches_46 : decode cX9_reaches 46 = .ok (.if_icmp .ge 146, 3) := by decide +kernel
theorem dX9_reaches_49 : decode cX9_reaches 49 = .ok (.aload_n 0, 1) := by decide +kernel
theorem dX9_reaches_50 : decode cX9_reaches 50 = .ok (.getfield 32, 3) := by decide +kernel
theorem dX9_reaches_53 : decode cX9_reaches 53 = .ok (.iload_n 3, 1) := by decide +kernel
theorem dX9_reaches_54 : decode cX9_reaches 54 = .ok (.iaload, 1) := by decide +kernel
theorem dX9_reaches_55 : decode cX9_reaches 55 = .ok (.istore 4, 2) := by decide +kernel
theorem dX9_reaches_57 : decode cX9_reaches 57 = .ok (.aload_n 0, 1) := by decide +kernel
theorem dX9_reaches_58 : decode cX9_reaches 58 = .ok (.getfield 35, 3) := by decide +kernel
theorem dX9_reaches_61 : decode cX9_reaches 61 = .ok (.iload_n 3, 1) := by decide +kernel
theorem dX9_reaches_62 : decode cX9_reaches 62 = .ok (.iaload, 1) := by decide +kernel
theorem dX9_reaches_63 : decode cX9_reaches 63 = .ok (.istore 5, 2) := by decide +kernel
theorem dX9_reaches_65 : decode cX9_reaches 65 = .ok (.aload_n 0, 1) := by decide +kernel
theorem dX9_reaches_66 : decode cX9_reaches 66 = .ok (.getfield 44, 3) := by decide +kernel
theorem dX9_reaches_69 : decode cX9_reaches 69 = .ok (.iload_n 3, 1) := by decide +kernel
theorem dX9_reaches_70 : decode cX9_reaches 70 = .ok (.baload, 1) := by decide +kernel
theorem dX9_reaches_71 : decode cX9_reaches 71 = .ok (.ifCond .eq 8, 3) := by decide +kernel
theorem dX9_reaches_74 : decode cX9_reaches 74 = .ok (.ldc 217, 2) := by decide +kernel
theorem dX9_reaches_76 : decode cX9_reaches 76 = .ok (.goto 14, 3) := by decide +kernel
theorem dX9_reaches_79 : decode cX9_reaches 79 = .ok (.bipush 16, 2) := by decide +kernel
theorem dX9_reaches_81 : decode cX9_reaches 81 = .ok (.aload_n 0, 1) := by decide +kernel
theorem dX9_reaches_82 : decode cX9_reaches 82 = .ok (.getfield 38, 3) := by decide +kernel
theorem dX9_reaches_85 : decode cX9_reaches 85 = .ok (.iload_n 3, 1) := by decide +kernel
theorem dX9_reaches_86 : decode cX9_reaches 86 = .ok (.iaload, 1) := by decide +kernel
theorem dX9_reaches_87 : decode cX9_reaches 87 = .ok (.imul, 1) := by decide +kernel
theorem dX9_reaches_88 : decode cX9_reaches 88 = .ok (.iconst 1, 1) := by decide +kernel
theorem dX9_reaches_89 : decode cX9_reaches 89 = .ok (.iadd, 1) := by decide +kernel
theorem dX9_reaches_90 : decode cX9_reaches 90 = .ok (.istore 6, 2) := by decide +kernel
theorem dX9_reaches_92 : decode cX9_reaches 92 = .ok (.aload_n 0, 1) := by decide +kernel
theorem dX9_reaches_93 : decode cX9_reaches 93 = .ok (.getfield 116, 3) := by decide +kernel
theorem dX9_reaches_96 : decode cX9_reaches 96 = .ok (.iload 4, 2) := by decide +kernel
theorem dX9_reaches_98 : decode cX9_reaches 98 = .ok (.aload_n 0, 1) := by decide +kernel
theorem dX9_reaches_99 : decode cX9_reaches 99 = .ok (.getfield 116, 3) := by decide +kernel
theorem dX9_reaches_102 : decode cX9_reaches 102 = .ok (.iload 5, 2) := by decide +kernel
theorem dX9_reaches_104 : decode cX9_reaches 104 = .ok (.iaload, 1) := by decide +kernel
theorem dX9_reaches_105 : decode cX9_reaches 105 = .ok (.iload 6, 2) := by decide +kernel
theorem dX9_reaches_107 : decode cX9_reaches 107 = .ok (.iadd, 1) := by decide +kernel
theorem dX9_reaches_108 : decode cX9_reaches 108 = .ok (.aload_n 0, 1) := by decide +kernel
theorem dX9_reaches_109 : decode cX9_reaches 109 = .ok (.getfield 116, 3) := by decide +kernel
theorem dX9_reaches_112 : decode cX9_reaches 112 = .ok (.iload 4, 2) := by decide +kernel
theorem dX9_reaches_114 : decode cX9_reaches 114 = .ok (.iaload, 1) := by decide +kernel
theorem dX9_reaches_115 : decode cX9_reaches 115 = .ok (.if_icmp .ge 16, 3) := by decide +kernel
theorem dX9_reaches_118 : decode cX9_reaches 118 = .ok (.aload_n 0, 1) := by decide +kernel
theorem dX9_reaches_119 : decode cX9_reaches 119 = .ok (.getfield 116, 3) := by decide +kernel
theorem dX9_reaches_122 : decode cX9_reaches 122 = .ok (.iload 5, 2) := by decide +kernel
theorem dX9_reaches_124 : decode cX9_reaches 124 = .ok (.iaload, 1) := by decide +kernel
theorem dX9_reaches_125 : decode cX9_reaches 125 = .ok (.iload 6, 2) := by decide +kernel
theorem dX9_reaches_127 : decode cX9_reaches 127 = .ok (.iadd, 1) := by decide +kernel
theorem dX9_reaches_128 : decode cX9_reaches 128 = .ok (.goto 10, 3) := by decide +kernel
theorem dX9_reaches_131 : decode cX9_reaches 131 = .ok (.aload_n 0, 1) := by decide +kernel
theorem dX9_reaches_132 : decode cX9_reaches 132 = .ok (.getfield 116, 3) := by decide +kernel
theorem dX9_reaches_135 : decode cX9_reaches 135 = .ok (.iload 4, 2) := by decide +kernel
theorem dX9_reaches_137 : decode cX9_reaches 137 = .ok (.iaload, 1) := by decide +kernel
theorem dX9_reaches_138 : decode cX9_reaches 138 = .ok (.iastore, 1) := by decide +kernel
theorem dX9_reaches_139 : decode cX9_reaches 139 = .ok (.aload_n 0, 1) := by decide +kernel
theorem dX9_reaches_140 : decode cX9_reaches 140 = .ok (.getfield 116, 3) := by decide +kernel
theorem dX9_reaches_143 : decode cX9_reaches 143 = .ok (.iload 5, 2) := by decide +kernel
theorem dX9_reaches_145 : decode cX9_reaches 145 = .ok (.aload_n 0, 1) := by decide +kernel
theorem dX9_reaches_146 : decode cX9_reaches 146 = .ok (.getfield 116, 3) := by decide +kernel
theorem dX9_reaches_149 : decode cX9_reaches 149 = .ok (.iload 4, 2) := by decide +kernel
theorem dX9_reaches_151 : decode cX9_reaches 151 = .ok (.iaload, 1) := by decide +kernel
theorem dX9_reaches_152 : decode cX9_reaches 152 = .ok (.iload 6, 2) := by decide +kernel
theorem dX9_reaches_154 : decode cX9_reaches 154 = .ok (.iadd, 1) := by decide +kernel
theorem dX9_reaches_155 : decode cX9_reaches 155 = .ok (.aload_n 0, 1) := by decide +kernel
theorem dX9_reaches_156 : decode cX9_reaches 156 = .ok (.getfield 116, 3) := by decide +kernel
theorem dX9_reaches_159 : decode cX9_reaches 159 = .ok (.iload 5, 2) := by decide +kernel
theorem dX9_reaches_161 : decode cX9_reaches 161 = .ok (.iaload, 1) := by decide +kernel
theorem dX9_reaches_162 : decode cX9_reaches 162 = .ok (.if_icmp .ge 16, 3) := by decide +kernel
theorem dX9_reaches_165 : decode cX9_reaches 165 = .ok (.aload_n 0, 1) := by decide +kernel
theorem dX9_reaches_166 : decode cX9_reaches 166 = .ok (.getfield 116, 3) := by decide +kernel
theorem dX9_reaches_169 : decode cX9_reaches 169 = .ok (.iload 4, 2) := by decide +kernel
theorem dX9_reaches_171 : decode cX9_reaches 171 = .ok (.iaload, 1) := by decide +kernel
theorem dX9_reaches_172 : decode cX9_reaches 172 = .ok (.iload 6, 2) := by decide +kernel
theorem dX9_reaches_174 : decode cX9_reaches 174 = .ok (.iadd, 1) := by decide +kernel
theorem dX9_reaches_175 : decode cX9_reaches 175 = .ok (.goto 10, 3) := by decide +kernel
theorem dX9_reaches_178 : decode cX9_reaches 178 = .ok (.aload_n 0, 1) := by decide +kernel
theorem dX9_reaches_179 : decode cX9_reaches 179 = .ok (.getfield 116, 3) := by decide +kernel
theorem dX9_reaches_182 : decode cX9_reaches 182 = .ok (.iload 5, 2) := by decide +kernel
theorem dX9_reaches_184 : decode cX9_reaches 184 = .ok (.iaload, 1) := by decide +kernel
theorem dX9_reaches_185 : decode cX9_reaches 185 = .ok (.iastore, 1) := by decide +kernel
theorem dX9_reaches_186 : decode cX9_reaches 186 = .ok (.iinc 3 1, 3) := by decide +kernel
theorem dX9_reaches_189 : decode cX9_reaches 189 = .ok (.goto (-148), 3) := by decide +kernel
theorem dX9_reaches_192 : decode cX9_reaches 192 = .ok (.iinc 2 1, 3) := by decide +kernel
theorem dX9_reaches_195 : decode cX9_reaches 195 = .ok (.goto (-162), 3) := by decide +kernel
theorem dX9_reaches_198 : decode cX9_reaches 198 = .ok (.return_, 1) := by decide +kernel
theorem dX9_hasRoute_0 : decode cX9_hasRoute 0 = .ok (.aload_n 0, 1) := by decide +kernel
theorem dX9_hasRoute_1 : decode cX9_hasRoute 1 = .ok (.iload_n 2, 1) := by decide +kernel
theorem dX9_hasRoute_2 : decode cX9_hasRoute 2 = .ok (.invokevirtual 242, 3) := by decide +kernel
theorem dX9_hasRoute_5 : decode cX9_hasRoute 5 = .ok (.aload_n 0, 1) := by decide +kernel
theorem dX9_hasRoute_6 : decode cX9_hasRoute 6 = .ok (.iconst 0, 1) := by decide +kernel
theorem dX9_hasRoute_7 : decode cX9_hasRoute 7 = .ok (.putfield 245, 3) := by decide +kernel
theorem dX9_hasRoute_10 : decode cX9_hasRoute 10 = .ok (.iload_n 1, 1) := by decide +kernel
theorem dX9_hasRoute_11 : decode cX9_hasRoute 11 = .ok (.istore_n 3, 1) := by decide +kernel
theorem dX9_hasRoute_12 : decode cX9_hasRoute 12 = .ok (.aload_n 0, 1) := by decide +kernel
theorem dX9_hasRoute_13 : decode cX9_hasRoute 13 = .ok (.getfield 116, 3) := by decide +kernel
theorem dX9_hasRoute_16 : decode cX9_hasRoute 16 = .ok (.iload_n 1, 1) := by decide +kernel
theorem dX9_hasRoute_17 : decode cX9_hasRoute 17 = .ok (.iaload, 1) := by decide +kernel
theorem dX9_hasRoute_18 : decode cX9_hasRoute 18 = .ok (.ldc 217, 2) := by decide +kernel
theorem dX9_hasRoute_20 : decode cX9_hasRoute 20 = .ok (.if_icmp .ge 104, 3) := by decide +kernel
theorem dX9_hasRoute_23 : decode cX9_hasRoute 23 = .ok (.iload_n 3, 1) := by decide +kernel
theorem dX9_hasRoute_24 : decode cX9_hasRoute 24 = .ok (.iload_n 2, 1) := by decide +kernel
theorem dX9_hasRoute_25 : decode cX9_hasRoute 25 = .ok (.if_icmp .eq 99, 3) := by decide +kernel
theorem dX9_hasRoute_28 : decode cX9_hasRoute 28 = .ok (.iconst 0, 1) := by decide +kernel
theorem dX9_hasRoute_29 : decode cX9_hasRoute 29 = .ok (.istore 4, 2) := by decide +kernel
theorem dX9_hasRoute_31 : decode cX9_hasRoute 31 = .ok (.aload_n 0, 1) := by decide +kernel
theorem dX9_hasRoute_32 : decode cX9_hasRoute 32 = .ok (.getfield 44, 3) := by decide +kernel
theorem dX9_hasRoute_35 : decode cX9_hasRoute 35 = .ok (.iload 4, 2) := by decide +kernel
theorem dX9_hasRoute_37 : decode cX9_hasRoute 37 = .ok (.baload, 1) := by decide +kernel
theorem dX9_hasRoute_38 : decode cX9_hasRoute 38 = .ok (.ifCond .ne 48, 3) := by decide +kernel
theorem dX9_hasRoute_41 : decode cX9_hasRoute 41 = .ok (.aload_n 0, 1) := by decide +kernel
theorem dX9_hasRoute_42 : decode cX9_hasRoute 42 = .ok (.iload 4, 2) := by decide +kernel
theorem dX9_hasRoute_44 : decode cX9_hasRoute 44 = .ok (.iload_n 3, 1) := by decide +kernel
theorem dX9_hasRoute_45 : decode cX9_hasRoute 45 = .ok (.invokevirtual 248, 3) := by decide +kernel
theorem dX9_hasRoute_48 : decode cX9_hasRoute 48 = .ok (.iconst (-1), 1) := by decide +kernel
theorem dX9_hasRoute_49 : decode cX9_hasRoute 49 = .ok (.if_icmp .eq 37, 3) := by decide +kernel
theorem dX9_hasRoute_52 : decode cX9_hasRoute 52 = .ok (.aload_n 0, 1) := by decide +kernel
theorem dX9_hasRoute_53 : decode cX9_hasRoute 53 = .ok (.getfield 116, 3) := by decide +kernel
theorem dX9_hasRoute_56 : decode cX9_hasRoute 56 = .ok (.aload_n 0, 1) := by decide +kernel
theorem dX9_hasRoute_57 : decode cX9_hasRoute 57 = .ok (.iload 4, 2) := by decide +kernel
theorem dX9_hasRoute_59 : decode cX9_hasRoute 59 = .ok (.iload_n 3, 1) := by decide +kernel
theorem dX9_hasRoute_60 : decode cX9_hasRoute 60 = .ok (.invokevirtual 248, 3) := by decide +kernel
theorem dX9_hasRoute_63 : decode cX9_hasRoute 63 = .ok (.iaload, 1) := by decide +kernel
theorem dX9_hasRoute_64 : decode cX9_hasRoute 64 = .ok (.bipush 16, 2) := by decide +kernel
theorem dX9_hasRoute_66 : decode cX9_hasRoute 66 = .ok (.aload_n 0, 1) := by decide +kernel
theorem dX9_hasRoute_67 : decode cX9_hasRoute 67 = .ok (.getfield 38, 3) := by decide +kernel
theorem dX9_hasRoute_70 : decode cX9_hasRoute 70 = .ok (.iload 4, 2) := by decide +kernel
theorem dX9_hasRoute_72 : decode cX9_hasRoute 72 = .ok (.iaload, 1) := by decide +kernel
theorem dX9_hasRoute_73 : decode cX9_hasRoute 73 = .ok (.imul, 1) := by decide +kernel
theorem dX9_hasRoute_74 : decode cX9_hasRoute 74 = .ok (.iadd, 1) := by decide +kernel
theorem dX9_hasRoute_75 : decode cX9_hasRoute 75 = .ok (.iconst 1, 1) := by decide +kernel
theorem dX9_hasRoute_76 : decode cX9_hasRoute 76 = .ok (.iadd, 1) := by decide +kernel
theorem dX9_hasRoute_77 : decode cX9_hasRoute 77 = .ok (.aload_n 0, 1) := by decide +kernel
theorem dX9_hasRoute_78 : decode cX9_hasRoute 78 = .ok (.getfield 116, 3) := by decide +kernel
theorem dX9_hasRoute_81 : decode cX9_hasRoute 81 = .ok (.iload_n 3, 1) := by decide +kernel
theorem dX9_hasRoute_82 : decode cX9_hasRoute 82 = .ok (.iaload, 1) := by decide +kernel
theorem dX9_hasRoute_83 : decode cX9_hasRoute 83 = .ok (.if_icmp .eq 9, 3) := by decide +kernel
theorem dX9_hasRoute_86 : decode cX9_hasRoute 86 = .ok (.iinc 4 1, 3) := by decide +kernel
theorem dX9_hasRoute_89 : decode cX9_hasRoute 89 = .ok (.goto (-58), 3) := by decide +kernel
theorem dX9_hasRoute_92 : decode cX9_hasRoute 92 = .ok (.aload_n 0, 1) := by decide +kernel
theorem dX9_hasRoute_93 : decode cX9_hasRoute 93 = .ok (.getfield 119, 3) := by decide +kernel
theorem dX9_hasRoute_96 : decode cX9_hasRoute 96 = .ok (.aload_n 0, 1) := by decide +kernel
theorem dX9_hasRoute_97 : decode cX9_hasRoute 97 = .ok (.getfield 245, 3) := by decide +kernel
theorem dX9_hasRoute_100 : decode cX9_hasRoute 100 = .ok (.iload 4, 2) := by decide +kernel
theorem dX9_hasRoute_102 : decode cX9_hasRoute 102 = .ok (.iastore, 1) := by decide +kernel
theorem dX9_hasRoute_103 : decode cX9_hasRoute 103 = .ok (.aload_n 0, 1) := by decide +kernel
theorem dX9_hasRoute_104 : decode cX9_hasRoute 104 = .ok (.dup, 1) := by decide +kernel
theorem dX9_hasRoute_105 : decode cX9_hasRoute 105 = .ok (.getfield 245, 3) := by decide +kernel
theorem dX9_hasRoute_108 : decode cX9_hasRoute 108 = .ok (.iconst 1, 1) := by decide +kernel
theorem dX9_hasRoute_109 : decode cX9_hasRoute 109 = .ok (.iadd, 1) := by decide +kernel
theorem dX9_hasRoute_110 : decode cX9_hasRoute 110 = .ok (.putfield 245, 3) := by decide +kernel
theorem dX9_hasRoute_113 : decode cX9_hasRoute 113 = .ok (.aload_n 0, 1) := by decide +kernel
theorem dX9_hasRoute_114 : decode cX9_hasRoute 114 = .ok (.iload 4, 2) := by decide +kernel
theorem dX9_hasRoute_116 : decode cX9_hasRoute 116 = .ok (.iload_n 3, 1) := by decide +kernel
theorem dX9_hasRoute_117 : decode cX9_hasRoute 117 = .ok (.invokevirtual 248, 3) := by decide +kernel
theorem dX9_hasRoute_120 : decode cX9_hasRoute 120 = .ok (.istore_n 3, 1) := by decide +kernel
theorem dX9_hasRoute_121 : decode cX9_hasRoute 121 = .ok (.goto (-109), 3) := by decide +kernel
theorem dX9_hasRoute_124 : decode cX9_hasRoute 124 = .ok (.aload_n 0, 1) := by decide +kernel
theorem dX9_hasRoute_125 : decode cX9_hasRoute 125 = .ok (.getfield 116, 3) := by decide +kernel
theorem dX9_hasRoute_128 : decode cX9_hasRoute 128 = .ok (.iload_n 1, 1) := by decide +kernel
theorem dX9_hasRoute_129 : decode cX9_hasRoute 129 = .ok (.iaload, 1) := by decide +kernel
theorem dX9_hasRoute_130 : decode cX9_hasRoute 130 = .ok (.ldc 217, 2) := by decide +kernel
theorem dX9_hasRoute_132 : decode cX9_hasRoute 132 = .ok (.if_icmp .ge 7, 3) := by decide +kernel
theorem dX9_hasRoute_135 : decode cX9_hasRoute 135 = .ok (.iconst 1, 1) := by decide +kernel
theorem dX9_hasRoute_136 : decode cX9_hasRoute 136 = .ok (.goto 4, 3) := by decide +kernel
theorem dX9_hasRoute_139 : decode cX9_hasRoute 139 = .ok (.iconst 0, 1) := by decide +kernel
theorem dX9_hasRoute_140 : decode cX9_hasRoute 140 = .ok (.ireturn, 1) := by decide +kernel
theorem dX9_comes_0 : decode cX9_comes 0 = .ok (.aload_n 0, 1) := by decide +kernel
theorem dX9_comes_1 : decode cX9_comes 1 = .ok (.getfield 92, 3) := by decide +kernel
theorem dX9_comes_4 : decode cX9_comes 4 = .ok (.iload_n 1, 1) := by decide +kernel
theorem dX9_comes_5 : decode cX9_comes 5 = .ok (.baload, 1) := by decide +kernel
theorem dX9_comes_6 : decode cX9_comes 6 = .ok (.ifCond .eq 29, 3) := by decide +kernel
theorem dX9_comes_9 : decode cX9_comes 9 = .ok (.aload_n 0, 1) := by decide +kernel
theorem dX9_comes_10 : decode cX9_comes 10 = .ok (.getfield 19, 3) := by decide +kernel
theorem dX9_comes_13 : decode cX9_comes 13 = .ok (.iload_n 2, 1) := by decide +kernel
theorem dX9_comes_14 : decode cX9_comes 14 = .ok (.baload, 1) := by decide +kernel
theorem dX9_comes_15 : decode cX9_comes 15 = .ok (.ifCond .eq 20, 3) := by decide +kernel
theorem dX9_comes_18 : decode cX9_comes 18 = .ok (.aload_n 0, 1) := by decide +kernel
theorem dX9_comes_19 : decode cX9_comes 19 = .ok (.getfield 77, 3) := by decide +kernel
theorem dX9_comes_22 : decode cX9_comes 22 = .ok (.iload_n 1, 1) := by decide +kernel
theorem dX9_comes_23 : decode cX9_comes 23 = .ok (.iconst 2, 1) := by decide +kernel
theorem dX9_comes_24 : decode cX9_comes 24 = .ok (.iastore, 1) := by decide +kernel
theorem dX9_comes_25 : decode cX9_comes 25 = .ok (.aload_n 0, 1) := by decide +kernel
theorem dX9_comes_26 : decode cX9_comes 26 = .ok (.getfield 89, 3) := by decide +kernel
theorem dX9_comes_29 : decode cX9_comes 29 = .ok (.iload_n 1, 1) := by decide +kernel
theorem dX9_comes_30 : decode cX9_comes 30 = .ok (.iload_n 2, 1) := by decide +kernel
theorem dX9_comes_31 : decode cX9_comes 31 = .ok (.iastore, 1) := by decide +kernel
theorem dX9_comes_32 : decode cX9_comes 32 = .ok (.goto 20, 3) := by decide +kernel
theorem dX9_comes_35 : decode cX9_comes 35 = .ok (.iload_n 2, 1) := by decide +kernel
theorem dX9_comes_36 : decode cX9_comes 36 = .ok (.aload_n 0, 1) := by decide +kernel
theorem dX9_comes_37 : decode cX9_comes 37 = .ok (.getfield 71, 3) := by decide +kernel
theorem dX9_comes_40 : decode cX9_comes 40 = .ok (.iload_n 1, 1) := by decide +kernel
theorem dX9_comes_41 : decode cX9_comes 41 = .ok (.iaload, 1) := by decide +kernel
theorem dX9_comes_42 : decode cX9_comes 42 = .ok (.if_icmp .ne 10, 3) := by decide +kernel
theorem dX9_comes_45 : decode cX9_comes 45 = .ok (.aload_n 0, 1) := by decide +kernel
theorem dX9_comes_46 : decode cX9_comes 46 = .ok (.getfield 77, 3) := by decide +kernel
theorem dX9_comes_49 : decode cX9_comes 49 = .ok (.iload_n 1, 1) := by decide +kernel
theorem dX9_comes_50 : decode cX9_comes 50 = .ok (.iconst 1, 1) := by decide +kernel
theorem dX9_comes_51 : decode cX9_comes 51 = .ok (.iastore, 1) := by decide +kernel
theorem dX9_comes_52 : decode cX9_comes 52 = .ok (.return_, 1) := by decide +kernel
theorem dX9_send_0 : decode cX9_send 0 = .ok (.aload_n 0, 1) := by decide +kernel
theorem dX9_send_1 : decode cX9_send 1 = .ok (.aload_n 0, 1) := by decide +kernel
theorem dX9_send_2 : decode cX9_send 2 = .ok (.iload_n 1, 1) := by decide +kernel
theorem dX9_send_3 : decode cX9_send 3 = .ok (.invokevirtual 184, 3) := by decide +kernel
theorem dX9_send_6 : decode cX9_send 6 = .ok (.ifCond .eq 15, 3) := by decide +kernel
theorem dX9_send_9 : decode cX9_send 9 = .ok (.aload_n 0, 1) := by decide +kernel
theorem dX9_send_10 : decode cX9_send 10 = .ok (.iload_n 2, 1) := by decide +kernel
theorem dX9_send_11 : decode cX9_send 11 = .ok (.invokevirtual 184, 3) := by decide +kernel
theorem dX9_send_14 : decode cX9_send 14 = .ok (.ifCond .eq 7, 3) := by decide +kernel
theorem dX9_send_17 : decode cX9_send 17 = .ok (.iconst 1, 1) := by decide +kernel
theorem dX9_send_18 : decode cX9_send 18 = .ok (.goto 4, 3) := by decide +kernel
theorem dX9_send_21 : decode cX9_send 21 = .ok (.iconst 0, 1) := by decide +kernel
theorem dX9_send_22 : decode cX9_send 22 = .ok (.invokevirtual 150, 3) := by decide +kernel
theorem dX9_send_25 : decode cX9_send 25 = .ok (.ifCond .ne 5, 3) := by decide +kernel
theorem dX9_send_28 : decode cX9_send 28 = .ok (.iconst 0, 1) := by decide +kernel
theorem dX9_send_29 : decode cX9_send 29 = .ok (.ireturn, 1) := by decide +kernel
theorem dX9_send_30 : decode cX9_send 30 = .ok (.iload_n 1, 1) := by decide +kernel
theorem dX9_send_31 : decode cX9_send 31 = .ok (.iload_n 2, 1) := by decide +kernel
theorem dX9_send_32 : decode cX9_send 32 = .ok (.if_icmp .eq 12, 3) := by decide +kernel
theorem dX9_send_35 : decode cX9_send 35 = .ok (.iload_n 3, 1) := by decide +kernel
theorem dX9_send_36 : decode cX9_send 36 = .ok (.iconst 0, 1) := by decide +kernel
theorem dX9_send_37 : decode cX9_send 37 = .ok (.iconst 2, 1) := by decide +kernel
theorem dX9_send_38 : decode cX9_send 38 = .ok (.invokestatic 129, 3) := by decide +kernel
theorem dX9_send_41 : decode cX9_send 41 = .ok (.ifCond .ne 9, 3) := by decide +kernel
theorem dX9_send_44 : decode cX9_send 44 = .ok (.aload_n 0, 1) := by decide +kernel
theorem dX9_send_45 : decode cX9_send 45 = .ok (.iconst 2, 1) := by decide +kernel
theorem dX9_send_46 : decode cX9_send 46 = .ok (.invokevirtual 154, 3) := by decide +kernel
theorem dX9_send_49 : decode cX9_send 49 = .ok (.ireturn, 1) := by decide +kernel
theorem dX9_send_50 : decode cX9_send 50 = .ok (.aload_n 0, 1) := by decide +kernel
theorem dX9_send_51 : decode cX9_send 51 = .ok (.getfield 202, 3) := by decide +kernel
theorem dX9_send_54 : decode cX9_send 54 = .ok (.ifCond .eq 21, 3) := by decide +kernel
theorem dX9_send_57 : decode cX9_send 57 = .ok (.aload_n 0, 1) := by decide +kernel
theorem dX9_send_58 : decode cX9_send 58 = .ok (.getfield 139, 3) := by decide +kernel
theorem dX9_send_61 : decode cX9_send 61 = .ok (.bipush 60, 2) := by decide +kernel
theorem dX9_send_63 : decode cX9_send 63 = .ok (.if_icmp .eq 12, 3) := by decide +kernel
theorem dX9_send_66 : decode cX9_send 66 = .ok (.aload_n 0, 1) := by decide +kernel
theorem dX9_send_67 : decode cX9_send 67 = .ok (.iload_n 1, 1) := by decide +kernel
theorem dX9_send_68 : decode cX9_send 68 = .ok (.iload_n 2, 1) := by decide +kernel
theorem dX9_send_69 : decode cX9_send 69 = .ok (.invokevirtual 251, 3) := by decide +kernel
theorem dX9_send_72 : decode cX9_send 72 = .ok (.ifCond .ne 9, 3) := by decide +kernel
theorem dX9_send_75 : decode cX9_send 75 = .ok (.aload_n 0, 1) := by decide +kernel
theorem dX9_send_76 : decode cX9_send 76 = .ok (.iconst 3, 1) := by decide +kernel
theorem dX9_send_77 : decode cX9_send 77 = .ok (.invokevirtual 154, 3) := by decide +kernel
theorem dX9_send_80 : decode cX9_send 80 = .ok (.ireturn, 1) := by decide +kernel
theorem dX9_send_81 : decode cX9_send 81 = .ok (.aload_n 0, 1) := by decide +kernel
theorem dX9_send_82 : decode cX9_send 82 = .ok (.iload_n 1, 1) := by decide +kernel
theorem dX9_send_83 : decode cX9_send 83 = .ok (.iload 4, 2) := by decide +kernel
theorem dX9_send_85 : decode cX9_send 85 = .ok (.invokevirtual 238, 3) := by decide +kernel
theorem dX9_send_88 : decode cX9_send 88 = .ok (.aload_n 0, 1) := by decide +kernel
theorem dX9_send_89 : decode cX9_send 89 = .ok (.getfield 139, 3) := by decide +kernel
theorem dX9_send_92 : decode cX9_send 92 = .ok (.istore 5, 2) := by decide +kernel
theorem dX9_send_94 : decode cX9_send 94 = .ok (.aload_n 0, 1) := by decide +kernel
theorem dX9_send_95 : decode cX9_send 95 = .ok (.dup, 1) := by decide +kernel
theorem dX9_send_96 : decode cX9_send 96 = .ok (.getfield 139, 3) := by decide +kernel
theorem dX9_send_99 : decode cX9_send 99 = .ok (.iconst 1, 1) := by decide +kernel
theorem dX9_send_100 : decode cX9_send 100 = .ok (.iadd, 1) := by decide +kernel
theorem dX9_send_101 : decode cX9_send 101 = .ok (.putfield 139, 3) := by decide +kernel
theorem dX9_send_104 : decode cX9_send 104 = .ok (.aload_n 0, 1) := by decide +kernel
theorem dX9_send_105 : decode cX9_send 105 = .ok (.getfield 68, 3) := by decide +kernel
theorem dX9_send_108 : decode cX9_send 108 = .ok (.iload 5, 2) := by decide +kernel
theorem dX9_send_110 : decode cX9_send 110 = .ok (.iload_n 1, 1) := by decide +kernel
theorem dX9_send_111 : decode cX9_send 111 = .ok (.iastore, 1) := by decide +kernel
theorem dX9_send_112 : decode cX9_send 112 = .ok (.aload_n 0, 1) := by decide +kernel
theorem dX9_send_113 : decode cX9_send 113 = .ok (.getfield 71, 3) := by decide +kernel
theorem dX9_send_116 : decode cX9_send 116 = .ok (.iload 5, 2) := by decide +kernel
theorem dX9_send_118 : decode cX9_send 118 = .ok (.iload_n 2, 1) := by decide +kernel
theorem dX9_send_119 : decode cX9_send 119 = .ok (.iastore, 1) := by decide +kernel
theorem dX9_send_120 : decode cX9_send 120 = .ok (.aload_n 0, 1) := by decide +kernel
theorem dX9_send_121 : decode cX9_send 121 = .ok (.getfield 74, 3) := by decide +kernel
theorem dX9_send_124 : decode cX9_send 124 = .ok (.iload 5, 2) := by decide +kernel
theorem dX9_send_126 : decode cX9_send 126 = .ok (.iload_n 3, 1) := by decide +kernel
theorem dX9_send_127 : decode cX9_send 127 = .ok (.iastore, 1) := by decide +kernel
theorem dX9_send_128 : decode cX9_send 128 = .ok (.aload_n 0, 1) := by decide +kernel
theorem dX9_send_129 : decode cX9_send 129 = .ok (.getfield 77, 3) := by decide +kernel
theorem dX9_send_132 : decode cX9_send 132 = .ok (.iload 5, 2) := by decide +kernel
theorem dX9_send_134 : decode cX9_send 134 = .ok (.iconst 0, 1) := by decide +kernel
theorem dX9_send_135 : decode cX9_send 135 = .ok (.iastore, 1) := by decide +kernel
theorem dX9_send_136 : decode cX9_send 136 = .ok (.aload_n 0, 1) := by decide +kernel
theorem dX9_send_137 : decode cX9_send 137 = .ok (.getfield 89, 3) := by decide +kernel
theorem dX9_send_140 : decode cX9_send 140 = .ok (.iload 5, 2) := by decide +kernel
theorem dX9_send_142 : decode cX9_send 142 = .ok (.iconst (-1), 1) := by decide +kernel
theorem dX9_send_143 : decode cX9_send 143 = .ok (.iastore, 1) := by decide +kernel
theorem dX9_send_144 : decode cX9_send 144 = .ok (.aload_n 0, 1) := by decide +kernel
theorem dX9_send_145 : decode cX9_send 145 = .ok (.getfield 83, 3) := by decide +kernel
theorem dX9_send_148 : decode cX9_send 148 = .ok (.iload 5, 2) := by decide +kernel
theorem dX9_send_150 : decode cX9_send 150 = .ok (.aload_n 0, 1) := by decide +kernel
theorem dX9_send_151 : decode cX9_send 151 = .ok (.getfield 228, 3) := by decide +kernel
theorem dX9_send_154 : decode cX9_send 154 = .ok (.iastore, 1) := by decide +kernel
theorem dX9_send_155 : decode cX9_send 155 = .ok (.aload_n 0, 1) := by decide +kernel
theorem dX9_send_156 : decode cX9_send 156 = .ok (.getfield 80, 3) := by decide +kernel
theorem dX9_send_159 : decode cX9_send 159 = .ok (.iload 5, 2) := by decide +kernel
theorem dX9_send_161 : decode cX9_send 161 = .ok (.aload_n 0, 1) := by decide +kernel
theorem dX9_send_162 : decode cX9_send 162 = .ok (.getfield 222, 3) := by decide +kernel
theorem dX9_send_165 : decode cX9_send 165 = .ok (.iastore, 1) := by decide +kernel
theorem dX9_send_166 : decode cX9_send 166 = .ok (.aload_n 0, 1) := by decide +kernel
theorem dX9_send_167 : decode cX9_send 167 = .ok (.getfield 107, 3) := by decide +kernel
theorem dX9_send_170 : decode cX9_send 170 = .ok (.iload 5, 2) := by decide +kernel
theorem dX9_send_172 : decode cX9_send 172 = .ok (.iconst 0, 1) := by decide +kernel
theorem dX9_send_173 : decode cX9_send 173 = .ok (.iastore, 1) := by decide +kernel
theorem dX9_send_174 : decode cX9_send 174 = .ok (.aload_n 0, 1) := by decide +kernel
theorem dX9_send_175 : decode cX9_send 175 = .ok (.getfield 110, 3) := by decide +kernel
theorem dX9_send_178 : decode cX9_send 178 = .ok (.iload 5, 2) := by decide +kernel
theorem dX9_send_180 : decode cX9_send 180 = .ok (.iconst 0, 1) := by decide +kernel
theorem dX9_send_181 : decode cX9_send 181 = .ok (.iastore, 1) := by decide +kernel
theorem dX9_send_182 : decode cX9_send 182 = .ok (.aload_n 0, 1) := by decide +kernel
theorem dX9_send_183 : decode cX9_send 183 = .ok (.getfield 92, 3) := by decide +kernel
theorem dX9_send_186 : decode cX9_send 186 = .ok (.iload 5, 2) := by decide +kernel
theorem dX9_send_188 : decode cX9_send 188 = .ok (.iconst 0, 1) := by decide +kernel
theorem dX9_send_189 : decode cX9_send 189 = .ok (.bastore, 1) := by decide +kernel
theorem dX9_send_190 : decode cX9_send 190 = .ok (.iconst 0, 1) := by decide +kernel
theorem dX9_send_191 : decode cX9_send 191 = .ok (.istore 6, 2) := by decide +kernel
theorem dX9_send_193 : decode cX9_send 193 = .ok (.iload 6, 2) := by decide +kernel
theorem dX9_send_195 : decode cX9_send 195 = .ok (.aload_n 0, 1) := by decide +kernel
theorem dX9_send_196 : decode cX9_send 196 = .ok (.getfield 222, 3) := by decide +kernel
theorem dX9_send_199 : decode cX9_send 199 = .ok (.if_icmp .ge 119, 3) := by decide +kernel
theorem dX9_send_202 : decode cX9_send 202 = .ok (.aload_n 0, 1) := by decide +kernel
theorem dX9_send_203 : decode cX9_send 203 = .ok (.getfield 65, 3) := by decide +kernel
theorem dX9_send_206 : decode cX9_send 206 = .ok (.iload 6, 2) := by decide +kernel
theorem dX9_send_208 : decode cX9_send 208 = .ok (.iaload, 1) := by decide +kernel
theorem dX9_send_209 : decode cX9_send 209 = .ok (.ifCond .lt 7, 3) := by decide +kernel
theorem dX9_send_212 : decode cX9_send 212 = .ok (.iconst 1, 1) := by decide +kernel
theorem dX9_send_213 : decode cX9_send 213 = .ok (.goto 4, 3) := by decide +kernel
theorem dX9_send_216 : decode cX9_send 216 = .ok (.iconst 0, 1) := by decide +kernel
theorem dX9_send_217 : decode cX9_send 217 = .ok (.istore 7, 2) := by decide +kernel
theorem dX9_send_219 : decode cX9_send 219 = .ok (.aload_n 0, 1) := by decide +kernel
theorem dX9_send_220 : decode cX9_send 220 = .ok (.getfield 92, 3) := by decide +kernel
theorem dX9_send_223 : decode cX9_send 223 = .ok (.iload 5, 2) := by decide +kernel
theorem dX9_send_225 : decode cX9_send 225 = .ok (.aload_n 0, 1) := by decide +kernel
theorem dX9_send_226 : decode cX9_send 226 = .ok (.getfield 92, 3) := by decide +kernel
theorem dX9_send_229 : decode cX9_send 229 = .ok (.iload 5, 2) := by decide +kernel
theorem dX9_send_231 : decode cX9_send 231 = .ok (.baload, 1) := by decide +kernel
theorem dX9_send_232 : decode cX9_send 232 = .ok (.ifCond .ne 8, 3) := by decide +kernel
theorem dX9_send_235 : decode cX9_send 235 = .ok (.iload 7, 2) := by decide +kernel
theorem dX9_send_237 : decode cX9_send 237 = .ok (.ifCond .eq 7, 3) := by decide +kernel
theorem dX9_send_240 : decode cX9_send 240 = .ok (.iconst 1, 1) := by decide +kernel
theorem dX9_send_241 : decode cX9_send 241 = .ok (.goto 4, 3) := by decide +kernel
theorem dX9_send_244 : decode cX9_send 244 = .ok (.iconst 0, 1) := by decide +kernel
theorem dX9_send_245 : decode cX9_send 245 = .ok (.bastore, 1) := by decide +kernel
theorem dX9_send_246 : decode cX9_send 246 = .ok (.aload_n 0, 1) := by decide +kernel
theorem dX9_send_247 : decode cX9_send 247 = .ok (.getfield 95, 3) := by decide +kernel
theorem dX9_send_250 : decode cX9_send 250 = .ok (.bipush 24, 2) := by decide +kernel
theorem dX9_send_252 : decode cX9_send 252 = .ok (.iload 5, 2) := by decide +kernel
theorem dX9_send_254 : decode cX9_send 254 = .ok (.imul, 1) := by decide +kernel
theorem dX9_send_255 : decode cX9_send 255 = .ok (.iload 6, 2) := by decide +kernel
theorem dX9_send_257 : decode cX9_send 257 = .ok (.iadd, 1) := by decide +kernel
theorem dX9_send_258 : decode cX9_send 258 = .ok (.iload 7, 2) := by decide +kernel
theorem dX9_send_260 : decode cX9_send 260 = .ok (.ifCond .eq 18, 3) := by decide +kernel
theorem dX9_send_263 : decode cX9_send 263 = .ok (.aload_n 0, 1) := by decide +kernel
theorem dX9_send_264 : decode cX9_send 264 = .ok (.aload_n 0, 1) := by decide +kernel
theorem dX9_send_265 : decode cX9_send 265 = .ok (.getfield 65, 3) := by decide +kernel
theorem dX9_send_268 : decode cX9_send 268 = .ok (.iload 6, 2) := by decide +kernel
theorem dX9_send_270 : decode cX9_send 270 = .ok (.iaload, 1) := by decide +kernel
theorem dX9_send_271 : decode cX9_send 271 = .ok (.iload_n 1, 1) := by decide +kernel
theorem dX9_send_272 : decode cX9_send 272 = .ok (.invokevirtual 205, 3) := by decide +kernel
theorem dX9_send_275 : decode cX9_send 275 = .ok (.goto 10, 3) := by decide +kernel
theorem dX9_send_278 : decode cX9_send 278 = .ok (.aload_n 0, 1) := by decide +kernel
theorem dX9_send_279 : decode cX9_send 279 = .ok (.getfield 65, 3) := by decide +kernel
theorem dX9_send_282 : decode cX9_send 282 = .ok (.iload 6, 2) := by decide +kernel
theorem dX9_send_284 : decode cX9_send 284 = .ok (.iaload, 1) := by decide +kernel
theorem dX9_send_285 : decode cX9_send 285 = .ok (.iastore, 1) := by decide +kernel
theorem dX9_send_286 : decode cX9_send 286 = .ok (.aload_n 0, 1) := by decide +kernel
theorem dX9_send_287 : decode cX9_send 287 = .ok (.getfield 98, 3) := by decide +kernel
theorem dX9_send_290 : decode cX9_send 290 = .ok (.bipush 24, 2) := by decide +kernel
theorem dX9_send_292 : decode cX9_send 292 = .ok (.iload 5, 2) := by decide +kernel
theorem dX9_send_294 : decode cX9_send 294 = .ok (.imul, 1) := by decide +kernel
theorem dX9_send_295 : decode cX9_send 295 = .ok (.iload 6, 2) := by decide +kernel
theorem dX9_send_297 : decode cX9_send 297 = .ok (.iadd, 1) := by decide +kernel
theorem dX9_send_298 : decode cX9_send 298 = .ok (.aload_n 0, 1) := by decide +kernel
theorem dX9_send_299 : decode cX9_send 299 = .ok (.getfield 95, 3) := by decide +kernel
theorem dX9_send_302 : decode cX9_send 302 = .ok (.bipush 24, 2) := by decide +kernel
theorem dX9_send_304 : decode cX9_send 304 = .ok (.iload 5, 2) := by decide +kernel
theorem dX9_send_306 : decode cX9_send 306 = .ok (.imul, 1) := by decide +kernel
theorem dX9_send_307 : decode cX9_send 307 = .ok (.iload 6, 2) := by decide +kernel
theorem dX9_send_309 : decode cX9_send 309 = .ok (.iadd, 1) := by decide +kernel
theorem dX9_send_310 : decode cX9_send 310 = .ok (.iaload, 1) := by decide +kernel
theorem dX9_send_311 : decode cX9_send 311 = .ok (.iastore, 1) := by decide +kernel
theorem dX9_send_312 : decode cX9_send 312 = .ok (.iinc 6 1, 3) := by decide +kernel
theorem dX9_send_315 : decode cX9_send 315 = .ok (.goto (-122), 3) := by decide +kernel
theorem dX9_send_318 : decode cX9_send 318 = .ok (.aload_n 0, 1) := by decide +kernel
theorem dX9_send_319 : decode cX9_send 319 = .ok (.getfield 104, 3) := by decide +kernel
theorem dX9_send_322 : decode cX9_send 322 = .ok (.iload 5, 2) := by decide +kernel
theorem dX9_send_324 : decode cX9_send 324 = .ok (.aload_n 0, 1) := by decide +kernel
theorem dX9_send_325 : decode cX9_send 325 = .ok (.getfield 245, 3) := by decide +kernel
theorem dX9_send_328 : decode cX9_send 328 = .ok (.iastore, 1) := by decide +kernel
theorem dX9_send_329 : decode cX9_send 329 = .ok (.aload_n 0, 1) := by decide +kernel
theorem dX9_send_330 : decode cX9_send 330 = .ok (.getfield 86, 3) := by decide +kernel
theorem dX9_send_333 : decode cX9_send 333 = .ok (.iload 5, 2) := by decide +kernel
theorem dX9_send_335 : decode cX9_send 335 = .ok (.iconst 0, 1) := by decide +kernel
theorem dX9_send_336 : decode cX9_send 336 = .ok (.iastore, 1) := by decide +kernel
theorem dX9_send_337 : decode cX9_send 337 = .ok (.iconst 0, 1) := by decide +kernel
theorem dX9_send_338 : decode cX9_send 338 = .ok (.istore 6, 2) := by decide +kernel
theorem dX9_send_340 : decode cX9_send 340 = .ok (.iload 6, 2) := by decide +kernel
theorem dX9_send_342 : decode cX9_send 342 = .ok (.aload_n 0, 1) := by decide +kernel
theorem dX9_send_343 : decode cX9_send 343 = .ok (.getfield 245, 3) := by decide +kernel
theorem dX9_send_346 : decode cX9_send 346 = .ok (.if_icmp .ge 86, 3) := by decide +kernel
theorem dX9_send_349 : decode cX9_send 349 = .ok (.aload_n 0, 1) := by decide +kernel
theorem dX9_send_350 : decode cX9_send 350 = .ok (.getfield 38, 3) := by decide +kernel
theorem dX9_send_353 : decode cX9_send 353 = .ok (.aload_n 0, 1) := by decide +kernel
theorem dX9_send_354 : decode cX9_send 354 = .ok (.getfield 119, 3) := by decide +kernel
theorem dX9_send_357 : decode cX9_send 357 = .ok (.iload 6, 2) := by decide +kernel
theorem dX9_send_359 : decode cX9_send 359 = .ok (.iaload, 1) := by decide +kernel
theorem dX9_send_360 : decode cX9_send 360 = .ok (.iaload, 1) := by decide +kernel
theorem dX9_send_361 : decode cX9_send 361 = .ok (.aload_n 0, 1) := by decide +kernel
theorem dX9_send_362 : decode cX9_send 362 = .ok (.getfield 228, 3) := by decide +kernel
theorem dX9_send_365 : decode cX9_send 365 = .ok (.imul, 1) := by decide +kernel
theorem dX9_send_366 : decode cX9_send 366 = .ok (.iconst 1, 1) := by decide +kernel
theorem dX9_send_367 : decode cX9_send 367 = .ok (.iload_n 3, 1) := by decide +kernel
theorem dX9_send_368 : decode cX9_send 368 = .ok (.ishl, 1) := by decide +kernel
theorem dX9_send_369 : decode cX9_send 369 = .ok (.imul, 1) := by decide +kernel
theorem dX9_send_370 : decode cX9_send 370 = .ok (.istore 7, 2) := by decide +kernel
theorem dX9_send_372 : decode cX9_send 372 = .ok (.aload_n 0, 1) := by decide +kernel
theorem dX9_send_373 : decode cX9_send 373 = .ok (.getfield 101, 3) := by decide +kernel
theorem dX9_send_376 : decode cX9_send 376 = .ok (.bipush 8, 2) := by decide +kernel
theorem dX9_send_378 : decode cX9_send 378 = .ok (.iload 5, 2) := by decide +kernel
theorem dX9_send_380 : decode cX9_send 380 = .ok (.imul, 1) := by decide +kernel
theorem dX9_send_381 : decode cX9_send 381 = .ok (.iload 6, 2) := by decide +kernel
theorem dX9_send_383 : decode cX9_send 383 = .ok (.iadd, 1) := by decide +kernel
theorem dX9_send_384 : decode cX9_send 384 = .ok (.aload_n 0, 1) := by decide +kernel
theorem dX9_send_385 : decode cX9_send 385 = .ok (.getfield 119, 3) := by decide +kernel
theorem dX9_send_388 : decode cX9_send 388 = .ok (.iload 6, 2) := by decide +kernel
theorem dX9_send_390 : decode cX9_send 390 = .ok (.iaload, 1) := by decide +kernel
theorem dX9_send_391 : decode cX9_send 391 = .ok (.iastore, 1) := by decide +kernel
theorem dX9_send_392 : decode cX9_send 392 = .ok (.aload_n 0, 1) := by decide +kernel
theorem dX9_send_393 : decode cX9_send 393 = .ok (.getfield 86, 3) := by decide +kernel
theorem dX9_send_396 : decode cX9_send 396 = .ok (.iload 5, 2) := by decide +kernel
theorem dX9_send_398 : decode cX9_send 398 = .ok (.dup2, 1) := by decide +kernel
theorem dX9_send_399 : decode cX9_send 399 = .ok (.iaload, 1) := by decide +kernel
theorem dX9_send_400 : decode cX9_send 400 = .ok (.iload 7, 2) := by decide +kernel
theorem dX9_send_402 : decode cX9_send 402 = .ok (.iadd, 1) := by decide +kernel
theorem dX9_send_403 : decode cX9_send 403 = .ok (.iastore, 1) := by decide +kernel
theorem dX9_send_404 : decode cX9_send 404 = .ok (.aload_n 0, 1) := by decide +kernel
theorem dX9_send_405 : decode cX9_send 405 = .ok (.getfield 29, 3) := by decide +kernel
theorem dX9_send_408 : decode cX9_send 408 = .ok (.aload_n 0, 1) := by decide +kernel
theorem dX9_send_409 : decode cX9_send 409 = .ok (.getfield 32, 3) := by decide +kernel
theorem dX9_send_412 : decode cX9_send 412 = .ok (.aload_n 0, 1) := by decide +kernel
theorem dX9_send_413 : decode cX9_send 413 = .ok (.getfield 119, 3) := by decide +kernel
theorem dX9_send_416 : decode cX9_send 416 = .ok (.iload 6, 2) := by decide +kernel
theorem dX9_send_418 : decode cX9_send 418 = .ok (.iaload, 1) := by decide +kernel
theorem dX9_send_419 : decode cX9_send 419 = .ok (.iaload, 1) := by decide +kernel
theorem dX9_send_420 : decode cX9_send 420 = .ok (.dup2, 1) := by decide +kernel
theorem dX9_send_421 : decode cX9_send 421 = .ok (.iaload, 1) := by decide +kernel
theorem dX9_send_422 : decode cX9_send 422 = .ok (.iload 7, 2) := by decide +kernel
theorem dX9_send_424 : decode cX9_send 424 = .ok (.iadd, 1) := by decide +kernel
theorem dX9_send_425 : decode cX9_send 425 = .ok (.iastore, 1) := by decide +kernel
theorem dX9_send_426 : decode cX9_send 426 = .ok (.iinc 6 1, 3) := by decide +kernel
theorem dX9_send_429 : decode cX9_send 429 = .ok (.goto (-89), 3) := by decide +kernel
theorem dX9_send_432 : decode cX9_send 432 = .ok (.aload_n 0, 1) := by decide +kernel
theorem dX9_send_433 : decode cX9_send 433 = .ok (.getfield 29, 3) := by decide +kernel
theorem dX9_send_436 : decode cX9_send 436 = .ok (.iload_n 1, 1) := by decide +kernel
theorem dX9_send_437 : decode cX9_send 437 = .ok (.dup2, 1) := by decide +kernel
theorem dX9_send_438 : decode cX9_send 438 = .ok (.iaload, 1) := by decide +kernel
theorem dX9_send_439 : decode cX9_send 439 = .ok (.aload_n 0, 1) := by decide +kernel
theorem dX9_send_440 : decode cX9_send 440 = .ok (.getfield 86, 3) := by decide +kernel
theorem dX9_send_443 : decode cX9_send 443 = .ok (.iload 5, 2) := by decide +kernel
theorem dX9_send_445 : decode cX9_send 445 = .ok (.iaload, 1) := by decide +kernel
theorem dX9_send_446 : decode cX9_send 446 = .ok (.isub, 1) := by decide +kernel
theorem dX9_send_447 : decode cX9_send 447 = .ok (.iastore, 1) := by decide +kernel
theorem dX9_send_448 : decode cX9_send 448 = .ok (.aload_n 0, 1) := by decide +kernel
theorem dX9_send_449 : decode cX9_send 449 = .ok (.iconst 0, 1) := by decide +kernel
theorem dX9_send_450 : decode cX9_send 450 = .ok (.putfield 202, 3) := by decide +kernel
theorem dX9_send_453 : decode cX9_send 453 = .ok (.aload_n 0, 1) := by decide +kernel
theorem dX9_send_454 : decode cX9_send 454 = .ok (.iload 5, 2) := by decide +kernel
theorem dX9_send_456 : decode cX9_send 456 = .ok (.iload_n 1, 1) := by decide +kernel
theorem dX9_send_457 : decode cX9_send 457 = .ok (.invokevirtual 254, 3) := by decide +kernel
theorem dX9_send_460 : decode cX9_send 460 = .ok (.iload 5, 2) := by decide +kernel
theorem dX9_send_462 : decode cX9_send 462 = .ok (.ireturn, 1) := by decide +kernel
theorem dX9_isCodeAt_0 : decode cX9_isCodeAt 0 = .ok (.aload_n 0, 1) := by decide +kernel
theorem dX9_isCodeAt_1 : decode cX9_isCodeAt 1 = .ok (.getfield 95, 3) := by decide +kernel
theorem dX9_isCodeAt_4 : decode cX9_isCodeAt 4 = .ok (.bipush 24, 2) := by decide +kernel
theorem dX9_isCodeAt_6 : decode cX9_isCodeAt 6 = .ok (.iload_n 1, 1) := by decide +kernel
theorem dX9_isCodeAt_7 : decode cX9_isCodeAt 7 = .ok (.imul, 1) := by decide +kernel
theorem dX9_isCodeAt_8 : decode cX9_isCodeAt 8 = .ok (.iload_n 2, 1) := by decide +kernel
theorem dX9_isCodeAt_9 : decode cX9_isCodeAt 9 = .ok (.iadd, 1) := by decide +kernel
theorem dX9_isCodeAt_10 : decode cX9_isCodeAt 10 = .ok (.iaload, 1) := by decide +kernel
theorem dX9_isCodeAt_11 : decode cX9_isCodeAt 11 = .ok (.ifCond .lt 7, 3) := by decide +kernel
theorem dX9_isCodeAt_14 : decode cX9_isCodeAt 14 = .ok (.iconst 1, 1) := by decide +kernel
theorem dX9_isCodeAt_15 : decode cX9_isCodeAt 15 = .ok (.goto 4, 3) := by decide +kernel
theorem dX9_isCodeAt_18 : decode cX9_isCodeAt 18 = .ok (.iconst 0, 1) := by decide +kernel
theorem dX9_isCodeAt_19 : decode cX9_isCodeAt 19 = .ok (.ireturn, 1) := by decide +kernel
theorem dX9_wrong_0 : decode cX9_wrong 0 = .ok (.aload_n 0, 1) := by decide +kernel
theorem dX9_wrong_1 : decode cX9_wrong 1 = .ok (.aload_n 0, 1) := by decide +kernel
theorem dX9_wrong_2 : decode cX9_wrong 2 = .ok (.iload_n 1, 1) := by decide +kernel
theorem dX9_wrong_3 : decode cX9_wrong 3 = .ok (.invokevirtual 257, 3) := by decide +kernel
theorem dX9_wrong_6 : decode cX9_wrong 6 = .ok (.ifCond .eq 23, 3) := by decide +kernel
theorem dX9_wrong_9 : decode cX9_wrong 9 = .ok (.iload_n 2, 1) := by decide +kernel
theorem dX9_wrong_10 : decode cX9_wrong 10 = .ok (.iconst 0, 1) := by decide +kernel
theorem dX9_wrong_11 : decode cX9_wrong 11 = .ok (.aload_n 0, 1) := by decide +kernel
theorem dX9_wrong_12 : decode cX9_wrong 12 = .ok (.getfield 80, 3) := by decide +kernel
theorem dX9_wrong_15 : decode cX9_wrong 15 = .ok (.iload_n 1, 1) := by decide +kernel
theorem dX9_wrong_16 : decode cX9_wrong 16 = .ok (.iaload, 1) := by decide +kernel
theorem dX9_wrong_17 : decode cX9_wrong 17 = .ok (.iconst 1, 1) := by decide +kernel
theorem dX9_wrong_18 : decode cX9_wrong 18 = .ok (.isub, 1) := by decide +kernel
theorem dX9_wrong_19 : decode cX9_wrong 19 = .ok (.invokestatic 129, 3) := by decide +kernel
theorem dX9_wrong_22 : decode cX9_wrong 22 = .ok (.ifCond .eq 7, 3) := by decide +kernel
theorem dX9_wrong_25 : decode cX9_wrong 25 = .ok (.iconst 1, 1) := by decide +kernel
theorem dX9_wrong_26 : decode cX9_wrong 26 = .ok (.goto 4, 3) := by decide +kernel
theorem dX9_wrong_29 : decode cX9_wrong 29 = .ok (.iconst 0, 1) := by decide +kernel
theorem dX9_wrong_30 : decode cX9_wrong 30 = .ok (.invokevirtual 150, 3) := by decide +kernel
theorem dX9_wrong_33 : decode cX9_wrong 33 = .ok (.ifCond .ne 5, 3) := by decide +kernel
theorem dX9_wrong_36 : decode cX9_wrong 36 = .ok (.iconst 0, 1) := by decide +kernel
theorem dX9_wrong_37 : decode cX9_wrong 37 = .ok (.ireturn, 1) := by decide +kernel
theorem dX9_wrong_38 : decode cX9_wrong 38 = .ok (.iload_n 3, 1) := by decide +kernel
theorem dX9_wrong_39 : decode cX9_wrong 39 = .ok (.iconst 0, 1) := by decide +kernel
theorem dX9_wrong_40 : decode cX9_wrong 40 = .ok (.iconst 4, 1) := by decide +kernel
theorem dX9_wrong_41 : decode cX9_wrong 41 = .ok (.invokestatic 129, 3) := by decide +kernel
theorem dX9_wrong_44 : decode cX9_wrong 44 = .ok (.ifCond .eq 14, 3) := by decide +kernel
theorem dX9_wrong_47 : decode cX9_wrong 47 = .ok (.iload 4, 2) := by decide +kernel
theorem dX9_wrong_49 : decode cX9_wrong 49 = .ok (.iconst 0, 1) := by decide +kernel
theorem dX9_wrong_50 : decode cX9_wrong 50 = .ok (.bipush 25, 2) := by decide +kernel
theorem dX9_wrong_52 : decode cX9_wrong 52 = .ok (.invokestatic 129, 3) := by decide +kernel
theorem dX9_wrong_55 : decode cX9_wrong 55 = .ok (.ifCond .ne 9, 3) := by decide +kernel
theorem dX9_wrong_58 : decode cX9_wrong 58 = .ok (.aload_n 0, 1) := by decide +kernel
theorem dX9_wrong_59 : decode cX9_wrong 59 = .ok (.iconst 2, 1) := by decide +kernel
theorem dX9_wrong_60 : decode cX9_wrong 60 = .ok (.invokevirtual 154, 3) := by decide +kernel
theorem dX9_wrong_63 : decode cX9_wrong 63 = .ok (.ireturn, 1) := by decide +kernel
theorem dX9_wrong_64 : decode cX9_wrong 64 = .ok (.aload_n 0, 1) := by decide +kernel
theorem dX9_wrong_65 : decode cX9_wrong 65 = .ok (.getfield 77, 3) := by decide +kernel
theorem dX9_wrong_68 : decode cX9_wrong 68 = .ok (.iload_n 1, 1) := by decide +kernel
theorem dX9_wrong_69 : decode cX9_wrong 69 = .ok (.iaload, 1) := by decide +kernel
theorem dX9_wrong_70 : decode cX9_wrong 70 = .ok (.ifCond .ne 12, 3) := by decide +kernel
theorem dX9_wrong_73 : decode cX9_wrong 73 = .ok (.aload_n 0, 1) := by decide +kernel
theorem dX9_wrong_74 : decode cX9_wrong 74 = .ok (.iload_n 1, 1) := by decide +kernel
theorem dX9_wrong_75 : decode cX9_wrong 75 = .ok (.iload_n 2, 1) := by decide +kernel
theorem dX9_wrong_76 : decode cX9_wrong 76 = .ok (.invokevirtual 260, 3) := by decide +kernel
theorem dX9_wrong_79 : decode cX9_wrong 79 = .ok (.ifCond .ne 9, 3) := by decide +kernel
theorem dX9_wrong_82 : decode cX9_wrong 82 = .ok (.aload_n 0, 1) := by decide +kernel
theorem dX9_wrong_83 : decode cX9_wrong 83 = .ok (.iconst 3, 1) := by decide +kernel
theorem dX9_wrong_84 : decode cX9_wrong 84 = .ok (.invokevirtual 154, 3) := by decide +kernel
theorem dX9_wrong_87 : decode cX9_wrong 87 = .ok (.ireturn, 1) := by decide +kernel
theorem dX9_wrong_88 : decode cX9_wrong 88 = .ok (.bipush 24, 2) := by decide +kernel
theorem dX9_wrong_90 : decode cX9_wrong 90 = .ok (.iload_n 1, 1) := by decide +kernel
theorem dX9_wrong_91 : decode cX9_wrong 91 = .ok (.imul, 1) := by decide +kernel
theorem dX9_wrong_92 : decode cX9_wrong 92 = .ok (.iload_n 2, 1) := by decide +kernel
theorem dX9_wrong_93 : decode cX9_wrong 93 = .ok (.iadd, 1) := by decide +kernel
theorem dX9_wrong_94 : decode cX9_wrong 94 = .ok (.istore 5, 2) := by decide +kernel
theorem dX9_wrong_96 : decode cX9_wrong 96 = .ok (.iconst 1, 1) := by decide +kernel
theorem dX9_wrong_97 : decode cX9_wrong 97 = .ok (.istore 6, 2) := by decide +kernel
theorem dX9_wrong_99 : decode cX9_wrong 99 = .ok (.iload_n 3, 1) := by decide +kernel
theorem dX9_wrong_100 : decode cX9_wrong 100 = .ok (.istore 7, 2) := by decide +kernel
theorem dX9_wrong_102 : decode cX9_wrong 102 = .ok (.iload 7, 2) := by decide +kernel
theorem dX9_wrong_104 : decode cX9_wrong 104 = .ok (.iconst 4, 1) := by decide +kernel
theorem dX9_wrong_105 : decode cX9_wrong 105 = .ok (.if_icmp .ge 16, 3) := by decide +kernel
theorem dX9_wrong_108 : decode cX9_wrong 108 = .ok (.iload 6, 2) := by decide +kernel
theorem dX9_wrong_110 : decode cX9_wrong 110 = .ok (.bipush 26, 2) := by decide +kernel
theorem dX9_wrong_112 : decode cX9_wrong 112 = .ok (.imul, 1) := by decide +kernel
theorem dX9_wrong_113 : decode cX9_wrong 113 = .ok (.istore 6, 2) := by decide +kernel
theorem dX9_wrong_115 : decode cX9_wrong 115 = .ok (.iinc 7 1, 3) := by decide +kernel
theorem dX9_wrong_118 : decode cX9_wrong 118 = .ok (.goto (-16), 3) := by decide +kernel
theorem dX9_wrong_121 : decode cX9_wrong 121 = .ok (.aload_n 0, 1) := by decide +kernel
theorem dX9_wrong_122 : decode cX9_wrong 122 = .ok (.getfield 98, 3) := by decide +kernel
theorem dX9_wrong_125 : decode cX9_wrong 125 = .ok (.iload 5, 2) := by decide +kernel
theorem dX9_wrong_127 : decode cX9_wrong 127 = .ok (.dup2, 1) := by decide +kernel
theorem dX9_wrong_128 : decode cX9_wrong 128 = .ok (.iaload, 1) := by decide +kernel
theorem dX9_wrong_129 : decode cX9_wrong 129 = .ok (.iload 4, 2) := by decide +kernel
theorem dX9_wrong_131 : decode cX9_wrong 131 = .ok (.aload_n 0, 1) := by decide +kernel
theorem dX9_wrong_132 : decode cX9_wrong 132 = .ok (.getfield 98, 3) := by decide +kernel
theorem dX9_wrong_135 : decode cX9_wrong 135 = .ok (.iload 5, 2) := by decide +kernel
theorem dX9_wrong_137 : decode cX9_wrong 137 = .ok (.iaload, 1) := by decide +kernel
theorem dX9_wrong_138 : decode cX9_wrong 138 = .ok (.iload_n 3, 1) := by decide +kernel
theorem dX9_wrong_139 : decode cX9_wrong 139 = .ok (.invokestatic 143, 3) := by decide +kernel
theorem dX9_wrong_142 : decode cX9_wrong 142 = .ok (.isub, 1) := by decide +kernel
theorem dX9_wrong_143 : decode cX9_wrong 143 = .ok (.iload 6, 2) := by decide +kernel
theorem dX9_wrong_145 : decode cX9_wrong 145 = .ok (.imul, 1) := by decide +kernel
theorem dX9_wrong_146 : decode cX9_wrong 146 = .ok (.iadd, 1) := by decide +kernel
theorem dX9_wrong_147 : decode cX9_wrong 147 = .ok (.iastore, 1) := by decide +kernel
theorem dX9_wrong_148 : decode cX9_wrong 148 = .ok (.aload_n 0, 1) := by decide +kernel
theorem dX9_wrong_149 : decode cX9_wrong 149 = .ok (.getfield 98, 3) := by decide +kernel
theorem dX9_wrong_152 : decode cX9_wrong 152 = .ok (.iload 5, 2) := by decide +kernel
theorem dX9_wrong_154 : decode cX9_wrong 154 = .ok (.iaload, 1) := by decide +kernel
theorem dX9_wrong_155 : decode cX9_wrong 155 = .ok (.ireturn, 1) := by decide +kernel
theorem dX9_behind_0 : decode cX9_behind 0 = .ok (.aload_n 0, 1) := by decide +kernel
theorem dX9_behind_1 : decode cX9_behind 1 = .ok (.getfield 68, 3) := by decide +kernel
theorem dX9_behind_4 : decode cX9_behind 4 = .ok (.iload_n 1, 1) := by decide +kernel
theorem dX9_behind_5 : decode cX9_behind 5 = .ok (.iaload, 1) := by decide +kernel
theorem dX9_behind_6 : decode cX9_behind 6 = .ok (.istore_n 2, 1) := by decide +kernel
theorem dX9_behind_7 : decode cX9_behind 7 = .ok (.iconst 0, 1) := by decide +kernel
theorem dX9_behind_8 : decode cX9_behind 8 = .ok (.istore_n 3, 1) := by decide +kernel
theorem dX9_behind_9 : decode cX9_behind 9 = .ok (.iload_n 3, 1) := by decide +kernel
theorem dX9_behind_10 : decode cX9_behind 10 = .ok (.aload_n 0, 1) := by decide +kernel
theorem dX9_behind_11 : decode cX9_behind 11 = .ok (.getfield 107, 3) := by decide +kernel
theorem dX9_behind_14 : decode cX9_behind 14 = .ok (.iload_n 1, 1) := by decide +kernel
theorem dX9_behind_15 : decode cX9_behind 15 = .ok (.iaload, 1) := by decide +kernel
theorem dX9_behind_16 : decode cX9_behind 16 = .ok (.if_icmp .gt 26, 3) := by decide +kernel
theorem dX9_behind_19 : decode cX9_behind 19 = .ok (.aload_n 0, 1) := by decide +kernel
theorem dX9_behind_20 : decode cX9_behind 20 = .ok (.aload_n 0, 1) := by decide +kernel
theorem dX9_behind_21 : decode cX9_behind 21 = .ok (.getfield 101, 3) := by decide +kernel
theorem dX9_behind_24 : decode cX9_behind 24 = .ok (.bipush 8, 2) := by decide +kernel
theorem dX9_behind_26 : decode cX9_behind 26 = .ok (.iload_n 1, 1) := by decide +kernel
theorem dX9_behind_27 : decode cX9_behind 27 = .ok (.imul, 1) := by decide +kernel
theorem dX9_behind_28 : decode cX9_behind 28 = .ok (.iload_n 3, 1) := by decide +kernel
theorem dX9_behind_29 : decode cX9_behind 29 = .ok (.iadd, 1) := by decide +kernel
theorem dX9_behind_30 : decode cX9_behind 30 = .ok (.iaload, 1) := by decide +kernel
theorem dX9_behind_31 : decode cX9_behind 31 = .ok (.iload_n 2, 1) := by decide +kernel
theorem dX9_behind_32 : decode cX9_behind 32 = .ok (.invokevirtual 248, 3) := by decide +kernel
theorem dX9_behind_35 : decode cX9_behind 35 = .ok (.istore_n 2, 1) := by decide +kernel
theorem dX9_behind_36 : decode cX9_behind 36 = .ok (.iinc 3 1, 3) := by decide +kernel
theorem dX9_behind_39 : decode cX9_behind 39 = .ok (.goto (-30), 3) := by decide +kernel
theorem dX9_behind_42 : decode cX9_behind 42 = .ok (.iload_n 2, 1) := by decide +kernel
theorem dX9_behind_43 : decode cX9_behind 43 = .ok (.ireturn, 1) := by decide +kernel
theorem dX9_carry_0 : decode cX9_carry 0 = .ok (.aload_n 0, 1) := by decide +kernel
theorem dX9_carry_1 : decode cX9_carry 1 = .ok (.getfield 83, 3) := by decide +kernel
theorem dX9_carry_4 : decode cX9_carry 4 = .ok (.iload_n 1, 1) := by decide +kernel
theorem dX9_carry_5 : decode cX9_carry 5 = .ok (.iaload, 1) := by decide +kernel
theorem dX9_carry_6 : decode cX9_carry 6 = .ok (.aload_n 0, 1) := by decide +kernel
theorem dX9_carry_7 : decode cX9_carry 7 = .ok (.getfield 110, 3) := by decide +kernel
theorem dX9_carry_10 : decode cX9_carry 10 = .ok (.iload_n 1, 1) := by decide +kernel
theorem dX9_carry_11 : decode cX9_carry 11 = .ok (.iaload, 1) := by decide +kernel
theorem dX9_carry_12 : decode cX9_carry 12 = .ok (.isub, 1) := by decide +kernel
theorem dX9_carry_13 : decode cX9_carry 13 = .ok (.iload_n 2, 1) := by decide +kernel
theorem dX9_carry_14 : decode cX9_carry 14 = .ok (.if_icmp .ge 19, 3) := by decide +kernel
theorem dX9_carry_17 : decode cX9_carry 17 = .ok (.aload_n 0, 1) := by decide +kernel
theorem dX9_carry_18 : decode cX9_carry 18 = .ok (.getfield 83, 3) := by decide +kernel
theorem dX9_carry_21 : decode cX9_carry 21 = .ok (.iload_n 1, 1) := by decide +kernel
theorem dX9_carry_22 : decode cX9_carry 22 = .ok (.iaload, 1) := by decide +kernel
theorem dX9_carry_23 : decode cX9_carry 23 = .ok (.aload_n 0, 1) := by decide +kernel
theorem dX9_carry_24 : decode cX9_carry 24 = .ok (.getfield 110, 3) := by decide +kernel
theorem dX9_carry_27 : decode cX9_carry 27 = .ok (.iload_n 1, 1) := by decide +kernel
theorem dX9_carry_28 : decode cX9_carry 28 = .ok (.iaload, 1) := by decide +kernel
theorem dX9_carry_29 : decode cX9_carry 29 = .ok (.isub, 1) := by decide +kernel
theorem dX9_carry_30 : decode cX9_carry 30 = .ok (.goto 4, 3) := by decide +kernel
theorem dX9_carry_33 : decode cX9_carry 33 = .ok (.iload_n 2, 1) := by decide +kernel
theorem dX9_carry_34 : decode cX9_carry 34 = .ok (.istore_n 3, 1) := by decide +kernel
theorem dX9_carry_35 : decode cX9_carry 35 = .ok (.aload_n 0, 1) := by decide +kernel
theorem dX9_carry_36 : decode cX9_carry 36 = .ok (.getfield 110, 3) := by decide +kernel
theorem dX9_carry_39 : decode cX9_carry 39 = .ok (.iload_n 1, 1) := by decide +kernel
theorem dX9_carry_40 : decode cX9_carry 40 = .ok (.dup2, 1) := by decide +kernel
theorem dX9_carry_41 : decode cX9_carry 41 = .ok (.iaload, 1) := by decide +kernel
theorem dX9_carry_42 : decode cX9_carry 42 = .ok (.iload_n 3, 1) := by decide +kernel
theorem dX9_carry_43 : decode cX9_carry 43 = .ok (.iadd, 1) := by decide +kernel
theorem dX9_carry_44 : decode cX9_carry 44 = .ok (.iastore, 1) := by decide +kernel
theorem dX9_carry_45 : decode cX9_carry 45 = .ok (.aload_n 0, 1) := by decide +kernel
theorem dX9_carry_46 : decode cX9_carry 46 = .ok (.getfield 110, 3) := by decide +kernel
theorem dX9_carry_49 : decode cX9_carry 49 = .ok (.iload_n 1, 1) := by decide +kernel
theorem dX9_carry_50 : decode cX9_carry 50 = .ok (.iaload, 1) := by decide +kernel
theorem dX9_carry_51 : decode cX9_carry 51 = .ok (.aload_n 0, 1) := by decide +kernel
theorem dX9_carry_52 : decode cX9_carry 52 = .ok (.getfield 83, 3) := by decide +kernel
theorem dX9_carry_55 : decode cX9_carry 55 = .ok (.iload_n 1, 1) := by decide +kernel
theorem dX9_carry_56 : decode cX9_carry 56 = .ok (.iaload, 1) := by decide +kernel
theorem dX9_carry_57 : decode cX9_carry 57 = .ok (.if_icmp .ne 41, 3) := by decide +kernel
theorem dX9_carry_60 : decode cX9_carry 60 = .ok (.aload_n 0, 1) := by decide +kernel
theorem dX9_carry_61 : decode cX9_carry 61 = .ok (.iload_n 1, 1) := by decide +kernel
theorem dX9_carry_62 : decode cX9_carry 62 = .ok (.invokevirtual 263, 3) := by decide +kernel
theorem dX9_carry_65 : decode cX9_carry 65 = .ok (.istore 4, 2) := by decide +kernel
theorem dX9_carry_67 : decode cX9_carry 67 = .ok (.aload_n 0, 1) := by decide +kernel
theorem dX9_carry_68 : decode cX9_carry 68 = .ok (.getfield 107, 3) := by decide +kernel
theorem dX9_carry_71 : decode cX9_carry 71 = .ok (.iload_n 1, 1) := by decide +kernel
theorem dX9_carry_72 : decode cX9_carry 72 = .ok (.dup2, 1) := by decide +kernel
theorem dX9_carry_73 : decode cX9_carry 73 = .ok (.iaload, 1) := by decide +kernel
theorem dX9_carry_74 : decode cX9_carry 74 = .ok (.iconst 1, 1) := by decide +kernel
theorem dX9_carry_75 : decode cX9_carry 75 = .ok (.iadd, 1) := by decide +kernel
theorem dX9_carry_76 : decode cX9_carry 76 = .ok (.iastore, 1) := by decide +kernel
theorem dX9_carry_77 : decode cX9_carry 77 = .ok (.aload_n 0, 1) := by decide +kernel
theorem dX9_carry_78 : decode cX9_carry 78 = .ok (.getfield 110, 3) := by decide +kernel
theorem dX9_carry_81 : decode cX9_carry 81 = .ok (.iload_n 1, 1) := by decide +kernel
theorem dX9_carry_82 : decode cX9_carry 82 = .ok (.iconst 0, 1) := by decide +kernel
theorem dX9_carry_83 : decode cX9_carry 83 = .ok (.iastore, 1) := by decide +kernel
theorem dX9_carry_84 : decode cX9_carry 84 = .ok (.aload_n 0, 1) := by decide +kernel
theorem dX9_carry_85 : decode cX9_carry 85 = .ok (.getfield 113, 3) := by decide +kernel
theorem dX9_carry_88 : decode cX9_carry 88 = .ok (.iload_n 1, 1) := by decide +kernel
theorem dX9_carry_89 : decode cX9_carry 89 = .ok (.iconst 0, 1) := by decide +kernel
theorem dX9_carry_90 : decode cX9_carry 90 = .ok (.bastore, 1) := by decide +kernel
theorem dX9_carry_91 : decode cX9_carry 91 = .ok (.aload_n 0, 1) := by decide +kernel
theorem dX9_carry_92 : decode cX9_carry 92 = .ok (.iload_n 1, 1) := by decide +kernel
theorem dX9_carry_93 : decode cX9_carry 93 = .ok (.iload 4, 2) := by decide +kernel
theorem dX9_carry_95 : decode cX9_carry 95 = .ok (.invokevirtual 254, 3) := by decide +kernel
theorem dX9_carry_98 : decode cX9_carry 98 = .ok (.iload_n 3, 1) := by decide +kernel
theorem dX9_carry_99 : decode cX9_carry 99 = .ok (.ireturn, 1) := by decide +kernel
theorem dX9_carries_0 : decode cX9_carries 0 = .ok (.iconst 0, 1) := by decide +kernel
theorem dX9_carries_1 : decode cX9_carries 1 = .ok (.istore_n 1, 1) := by decide +kernel
theorem dX9_carries_2 : decode cX9_carries 2 = .ok (.iload_n 1, 1) := by decide +kernel
theorem dX9_carries_3 : decode cX9_carries 3 = .ok (.aload_n 0, 1) := by decide +kernel
theorem dX9_carries_4 : decode cX9_carries 4 = .ok (.getfield 139, 3) := by decide +kernel
theorem dX9_carries_7 : decode cX9_carries 7 = .ok (.if_icmp .ge 29, 3) := by decide +kernel
theorem dX9_carries_10 : decode cX9_carries 10 = .ok (.aload_n 0, 1) := by decide +kernel
theorem dX9_carries_11 : decode cX9_carries 11 = .ok (.getfield 113, 3) := by decide +kernel
theorem dX9_carries_14 : decode cX9_carries 14 = .ok (.iload_n 1, 1) := by decide +kernel
theorem dX9_carries_15 : decode cX9_carries 15 = .ok (.aload_n 0, 1) := by decide +kernel
theorem dX9_carries_16 : decode cX9_carries 16 = .ok (.getfield 77, 3) := by decide +kernel
theorem dX9_carries_19 : decode cX9_carries 19 = .ok (.iload_n 1, 1) := by decide +kernel
theorem dX9_carries_20 : decode cX9_carries 20 = .ok (.iaload, 1) := by decide +kernel
theorem dX9_carries_21 : decode cX9_carries 21 = .ok (.ifCond .ne 7, 3) := by decide +kernel
theorem dX9_carries_24 : decode cX9_carries 24 = .ok (.iconst 1, 1) := by decide +kernel
theorem dX9_carries_25 : decode cX9_carries 25 = .ok (.goto 4, 3) := by decide +kernel
theorem dX9_carries_28 : decode cX9_carries 28 = .ok (.iconst 0, 1) := by decide +kernel
theorem dX9_carries_29 : decode cX9_carries 29 = .ok (.bastore, 1) := by decide +kernel
theorem dX9_carries_30 : decode cX9_carries 30 = .ok (.iinc 1 1, 3) := by decide +kernel
theorem dX9_carries_33 : decode cX9_carries 33 = .ok (.goto (-31), 3) := by decide +kernel
theorem dX9_carries_36 : decode cX9_carries 36 = .ok (.iconst 0, 1) := by decide +kernel
theorem dX9_carries_37 : decode cX9_carries 37 = .ok (.istore_n 1, 1) := by decide +kernel
theorem dX9_carries_38 : decode cX9_carries 38 = .ok (.iload_n 1, 1) := by decide +kernel
theorem dX9_carries_39 : decode cX9_carries 39 = .ok (.aload_n 0, 1) := by decide +kernel
theorem dX9_carries_40 : decode cX9_carries 40 = .ok (.getfield 136, 3) := by decide +kernel
theorem dX9_carries_43 : decode cX9_carries 43 = .ok (.if_icmp .ge 120, 3) := by decide +kernel
theorem dX9_carries_46 : decode cX9_carries 46 = .ok (.aload_n 0, 1) := by decide +kernel
theorem dX9_carries_47 : decode cX9_carries 47 = .ok (.getfield 44, 3) := by decide +kernel
theorem dX9_carries_50 : decode cX9_carries 50 = .ok (.iload_n 1, 1) := by decide +kernel
theorem dX9_carries_51 : decode cX9_carries 51 = .ok (.baload, 1) := by decide +kernel
theorem dX9_carries_52 : decode cX9_carries 52 = .ok (.ifCond .eq 7, 3) := by decide +kernel
theorem dX9_carries_55 : decode cX9_carries 55 = .ok (.iconst 0, 1) := by decide +kernel
theorem dX9_carries_56 : decode cX9_carries 56 = .ok (.goto 9, 3) := by decide +kernel
theorem dX9_carries_59 : decode cX9_carries 59 = .ok (.aload_n 0, 1) := by decide +kernel
theorem dX9_carries_60 : decode cX9_carries 60 = .ok (.getfield 41, 3) := by decide +kernel
theorem dX9_carries_63 : decode cX9_carries 63 = .ok (.iload_n 1, 1) := by decide +kernel
theorem dX9_carries_64 : decode cX9_carries 64 = .ok (.iaload, 1) := by decide +kernel
theorem dX9_carries_65 : decode cX9_carries 65 = .ok (.istore_n 2, 1) := by decide +kernel
theorem dX9_carries_66 : decode cX9_carries 66 = .ok (.iconst 2, 1) := by decide +kernel
theorem dX9_carries_67 : decode cX9_carries 67 = .ok (.istore_n 3, 1) := by decide +kernel
theorem dX9_carries_68 : decode cX9_carries 68 = .ok (.iload_n 3, 1) := by decide +kernel
theorem dX9_carries_69 : decode cX9_carries 69 = .ok (.ifCond .lt 88, 3) := by decide +kernel
theorem dX9_carries_72 : decode cX9_carries 72 = .ok (.iconst 0, 1) := by decide +kernel
theorem dX9_carries_73 : decode cX9_carries 73 = .ok (.istore 4, 2) := by decide +kernel
theorem dX9_carries_75 : decode cX9_carries 75 = .ok (.iload 4, 2) := by decide +kernel
theorem dX9_carries_77 : decode cX9_carries 77 = .ok (.aload_n 0, 1) := by decide +kernel
theorem dX9_carries_78 : decode cX9_carries 78 = .ok (.getfield 139, 3) := by decide +kernel
theorem dX9_carries_81 : decode cX9_carries 81 = .ok (.if_icmp .ge 70, 3) := by decide +kernel
theorem dX9_carries_84 : decode cX9_carries 84 = .ok (.iload_n 2, 1) := by decide +kernel
theorem dX9_carries_85 : decode cX9_carries 85 = .ok (.ifCond .le 66, 3) := by decide +kernel
theorem dX9_carries_88 : decode cX9_carries 88 = .ok (.aload_n 0, 1) := by decide +kernel
theorem dX9_carries_89 : decode cX9_carries 89 = .ok (.getfield 113, 3) := by decide +kernel
theorem dX9_carries_92 : decode cX9_carries 92 = .ok (.iload 4, 2) := by decide +kernel
theorem dX9_carries_94 : decode cX9_carries 94 = .ok (.baload, 1) := by decide +kernel
theorem dX9_carries_95 : decode cX9_carries 95 = .ok (.ifCond .eq 28, 3) := by decide +kernel
theorem dX9_carries_98 : decode cX9_carries 98 = .ok (.aload_n 0, 1) := by decide +kernel
theorem dX9_carries_99 : decode cX9_carries 99 = .ok (.getfield 74, 3) := by decide +kernel
theorem dX9_carries_102 : decode cX9_carries 102 = .ok (.iload 4, 2) := by decide +kernel
theorem dX9_carries_104 : decode cX9_carries 104 = .ok (.iaload, 1) := by decide +kernel
theorem dX9_carries_105 : decode cX9_carries 105 = .ok (.iload_n 3, 1) := by decide +kernel
theorem dX9_carries_106 : decode cX9_carries 106 = .ok (.if_icmp .ne 17, 3) := by decide +kernel
theorem dX9_carries_109 : decode cX9_carries 109 = .ok (.aload_n 0, 1) := by decide +kernel
theorem dX9_carries_110 : decode cX9_carries 110 = .ok (.iload 4, 2) := by decide +kernel
theorem dX9_carries_112 : decode cX9_carries 112 = .ok (.invokevirtual 190, 3) := by decide +kernel
theorem dX9_carries_115 : decode cX9_carries 115 = .ok (.iload_n 1, 1) := by decide +kernel
theorem dX9_carries_116 : decode cX9_carries 116 = .ok (.if_icmp .ne 7, 3) := by decide +kernel
theorem dX9_carries_119 : decode cX9_carries 119 = .ok (.iconst 1, 1) := by decide +kernel
theorem dX9_carries_120 : decode cX9_carries 120 = .ok (.goto 4, 3) := by decide +kernel
theorem dX9_carries_123 : decode cX9_carries 123 = .ok (.iconst 0, 1) := by decide +kernel
theorem dX9_carries_124 : decode cX9_carries 124 = .ok (.istore 5, 2) := by decide +kernel
theorem dX9_carries_126 : decode cX9_carries 126 = .ok (.iload_n 2, 1) := by decide +kernel
theorem dX9_carries_127 : decode cX9_carries 127 = .ok (.iload 5, 2) := by decide +kernel
theorem dX9_carries_129 : decode cX9_carries 129 = .ok (.ifCond .eq 13, 3) := by decide +kernel
theorem dX9_carries_132 : decode cX9_carries 132 = .ok (.aload_n 0, 1) := by decide +kernel
theorem dX9_carries_133 : decode cX9_carries 133 = .ok (.iload 4, 2) := by decide +kernel
theorem dX9_carries_135 : decode cX9_carries 135 = .ok (.iload_n 2, 1) := by decide +kernel
theorem dX9_carries_136 : decode cX9_carries 136 = .ok (.invokevirtual 266, 3) := by decide +kernel
theorem dX9_carries_139 : decode cX9_carries 139 = .ok (.goto 4, 3) := by decide +kernel
theorem dX9_carries_142 : decode cX9_carries 142 = .ok (.iconst 0, 1) := by decide +kernel
theorem dX9_carries_143 : decode cX9_carries 143 = .ok (.isub, 1) := by decide +kernel
theorem dX9_carries_144 : decode cX9_carries 144 = .ok (.istore_n 2, 1) := by decide +kernel
theorem dX9_carries_145 : decode cX9_carries 145 = .ok (.iinc 4 1, 3) := by decide +kernel
theorem dX9_carries_148 : decode cX9_carries 148 = .ok (.goto (-73), 3) := by decide +kernel
theorem dX9_carries_151 : decode cX9_carries 151 = .ok (.iinc 3 (-1), 3) := by decide +kernel
theorem dX9_carries_154 : decode cX9_carries 154 = .ok (.goto (-86), 3) := by decide +kernel
theorem dX9_carries_157 : decode cX9_carries 157 = .ok (.iinc 1 1, 3) := by decide +kernel
theorem dX9_carries_160 : decode cX9_carries 160 = .ok (.goto (-122), 3) := by decide +kernel
theorem dX9_carries_163 : decode cX9_carries 163 = .ok (.return_, 1) := by decide +kernel
theorem dX9_pass_0 : decode cX9_pass 0 = .ok (.aload_n 0, 1) := by decide +kernel
theorem dX9_pass_1 : decode cX9_pass 1 = .ok (.iload_n 1, 1) := by decide +kernel
theorem dX9_pass_2 : decode cX9_pass 2 = .ok (.iconst 1, 1) := by decide +kernel
theorem dX9_pass_3 : decode cX9_pass 3 = .ok (.bipush 60, 2) := by decide +kernel
theorem dX9_pass_5 : decode cX9_pass 5 = .ok (.invokestatic 129, 3) := by decide +kernel
theorem dX9_pass_8 : decode cX9_pass 8 = .ok (.invokevirtual 150, 3) := by decide +kernel
theorem dX9_pass_11 : decode cX9_pass 11 = .ok (.ifCond .ne 5, 3) := by decide +kernel
theorem dX9_pass_14 : decode cX9_pass 14 = .ok (.iconst 0, 1) := by decide +kernel
theorem dX9_pass_15 : decode cX9_pass 15 = .ok (.ireturn, 1) := by decide +kernel
theorem dX9_pass_16 : decode cX9_pass 16 = .ok (.aload_n 0, 1) := by decide +kernel
theorem dX9_pass_17 : decode cX9_pass 17 = .ok (.getfield 196, 3) := by decide +kernel
theorem dX9_pass_20 : decode cX9_pass 20 = .ok (.iload_n 1, 1) := by decide +kernel
theorem dX9_pass_21 : decode cX9_pass 21 = .ok (.iadd, 1) := by decide +kernel
theorem dX9_pass_22 : decode cX9_pass 22 = .ok (.ldc 217, 2) := by decide +kernel
theorem dX9_pass_24 : decode cX9_pass 24 = .ok (.if_icmp .le 9, 3) := by decide +kernel
theorem dX9_pass_27 : decode cX9_pass 27 = .ok (.aload_n 0, 1) := by decide +kernel
theorem dX9_pass_28 : decode cX9_pass 28 = .ok (.iconst 2, 1) := by decide +kernel
theorem dX9_pass_29 : decode cX9_pass 29 = .ok (.invokevirtual 154, 3) := by decide +kernel
theorem dX9_pass_32 : decode cX9_pass 32 = .ok (.ireturn, 1) := by decide +kernel
theorem dX9_pass_33 : decode cX9_pass 33 = .ok (.iconst 0, 1) := by decide +kernel
theorem dX9_pass_34 : decode cX9_pass 34 = .ok (.istore_n 2, 1) := by decide +kernel
theorem dX9_pass_35 : decode cX9_pass 35 = .ok (.iload_n 2, 1) := by decide +kernel
theorem dX9_pass_36 : decode cX9_pass 36 = .ok (.iload_n 1, 1) := by decide +kernel
theorem dX9_pass_37 : decode cX9_pass 37 = .ok (.if_icmp .ge 23, 3) := by decide +kernel
theorem dX9_pass_40 : decode cX9_pass 40 = .ok (.aload_n 0, 1) := by decide +kernel
theorem dX9_pass_41 : decode cX9_pass 41 = .ok (.invokevirtual 269, 3) := by decide +kernel
theorem dX9_pass_44 : decode cX9_pass 44 = .ok (.aload_n 0, 1) := by decide +kernel
theorem dX9_pass_45 : decode cX9_pass 45 = .ok (.dup, 1) := by decide +kernel
theorem dX9_pass_46 : decode cX9_pass 46 = .ok (.getfield 196, 3) := by decide +kernel
theorem dX9_pass_49 : decode cX9_pass 49 = .ok (.iconst 1, 1) := by decide +kernel
theorem dX9_pass_50 : decode cX9_pass 50 = .ok (.iadd, 1) := by decide +kernel
theorem dX9_pass_51 : decode cX9_pass 51 = .ok (.putfield 196, 3) := by decide +kernel
theorem dX9_pass_54 : decode cX9_pass 54 = .ok (.iinc 2 1, 3) := by decide +kernel
theorem dX9_pass_57 : decode cX9_pass 57 = .ok (.goto (-22), 3) := by decide +kernel
theorem dX9_pass_60 : decode cX9_pass 60 = .ok (.aload_n 0, 1) := by decide +kernel
theorem dX9_pass_61 : decode cX9_pass 61 = .ok (.getfield 196, 3) := by decide +kernel
theorem dX9_pass_64 : decode cX9_pass 64 = .ok (.ireturn, 1) := by decide +kernel
theorem dX9_rest_0 : decode cX9_rest 0 = .ok (.aload_n 0, 1) := by decide +kernel
theorem dX9_rest_1 : decode cX9_rest 1 = .ok (.iload_n 1, 1) := by decide +kernel
theorem dX9_rest_2 : decode cX9_rest 2 = .ok (.iconst 1, 1) := by decide +kernel
theorem dX9_rest_3 : decode cX9_rest 3 = .ok (.bipush 100, 2) := by decide +kernel
theorem dX9_rest_5 : decode cX9_rest 5 = .ok (.invokestatic 129, 3) := by decide +kernel
theorem dX9_rest_8 : decode cX9_rest 8 = .ok (.invokevirtual 150, 3) := by decide +kernel
theorem dX9_rest_11 : decode cX9_rest 11 = .ok (.ifCond .ne 5, 3) := by decide +kernel
theorem dX9_rest_14 : decode cX9_rest 14 = .ok (.iconst 0, 1) := by decide +kernel
theorem dX9_rest_15 : decode cX9_rest 15 = .ok (.ireturn, 1) := by decide +kernel
theorem dX9_rest_16 : decode cX9_rest 16 = .ok (.aload_n 0, 1) := by decide +kernel
theorem dX9_rest_17 : decode cX9_rest 17 = .ok (.getfield 196, 3) := by decide +kernel
theorem dX9_rest_20 : decode cX9_rest 20 = .ok (.sipush 1440, 3) := by decide +kernel
theorem dX9_rest_23 : decode cX9_rest 23 = .ok (.iload_n 1, 1) := by decide +kernel
theorem dX9_rest_24 : decode cX9_rest 24 = .ok (.imul, 1) := by decide +kernel
theorem dX9_rest_25 : decode cX9_rest 25 = .ok (.iadd, 1) := by decide +kernel
theorem dX9_rest_26 : decode cX9_rest 26 = .ok (.ldc 217, 2) := by decide +kernel
theorem dX9_rest_28 : decode cX9_rest 28 = .ok (.if_icmp .le 9, 3) := by decide +kernel
theorem dX9_rest_31 : decode cX9_rest 31 = .ok (.aload_n 0, 1) := by decide +kernel
theorem dX9_rest_32 : decode cX9_rest 32 = .ok (.iconst 2, 1) := by decide +kernel
theorem dX9_rest_33 : decode cX9_rest 33 = .ok (.invokevirtual 154, 3) := by decide +kernel
theorem dX9_rest_36 : decode cX9_rest 36 = .ok (.ireturn, 1) := by decide +kernel
theorem dX9_rest_37 : decode cX9_rest 37 = .ok (.aload_n 0, 1) := by decide +kernel
theorem dX9_rest_38 : decode cX9_rest 38 = .ok (.dup, 1) := by decide +kernel
theorem dX9_rest_39 : decode cX9_rest 39 = .ok (.getfield 196, 3) := by decide +kernel
theorem dX9_rest_42 : decode cX9_rest 42 = .ok (.sipush 1440, 3) := by decide +kernel
theorem dX9_rest_45 : decode cX9_rest 45 = .ok (.iload_n 1, 1) := by decide +kernel
theorem dX9_rest_46 : decode cX9_rest 46 = .ok (.imul, 1) := by decide +kernel
theorem dX9_rest_47 : decode cX9_rest 47 = .ok (.iadd, 1) := by decide +kernel
theorem dX9_rest_48 : decode cX9_rest 48 = .ok (.putfield 196, 3) := by decide +kernel
theorem dX9_rest_51 : decode cX9_rest 51 = .ok (.aload_n 0, 1) := by decide +kernel
theorem dX9_rest_52 : decode cX9_rest 52 = .ok (.getfield 196, 3) := by decide +kernel
theorem dX9_rest_55 : decode cX9_rest 55 = .ok (.ireturn, 1) := by decide +kernel
theorem dX9_ofMessage_0 : decode cX9_ofMessage 0 = .ok (.aload_n 0, 1) := by decide +kernel
theorem dX9_ofMessage_1 : decode cX9_ofMessage 1 = .ok (.aload_n 0, 1) := by decide +kernel
theorem dX9_ofMessage_2 : decode cX9_ofMessage 2 = .ok (.iload_n 1, 1) := by decide +kernel
theorem dX9_ofMessage_3 : decode cX9_ofMessage 3 = .ok (.invokevirtual 257, 3) := by decide +kernel
theorem dX9_ofMessage_6 : decode cX9_ofMessage 6 = .ok (.invokevirtual 150, 3) := by decide +kernel
theorem dX9_ofMessage_9 : decode cX9_ofMessage 9 = .ok (.ifCond .ne 5, 3) := by decide +kernel
theorem dX9_ofMessage_12 : decode cX9_ofMessage 12 = .ok (.iconst 0, 1) := by decide +kernel
theorem dX9_ofMessage_13 : decode cX9_ofMessage 13 = .ok (.ireturn, 1) := by decide +kernel
theorem dX9_ofMessage_14 : decode cX9_ofMessage 14 = .ok (.iload_n 2, 1) := by decide +kernel
theorem dX9_ofMessage_15 : decode cX9_ofMessage 15 = .ok (.tableswitch 78 0 5 #[37, 44, 51, 58, 65, 71], 37) := by decide +kernel
theorem dX9_ofMessage_52 : decode cX9_ofMessage 52 = .ok (.aload_n 0, 1) := by decide +kernel
theorem dX9_ofMessage_53 : decode cX9_ofMessage 53 = .ok (.getfield 77, 3) := by decide +kernel
theorem dX9_ofMessage_56 : decode cX9_ofMessage 56 = .ok (.iload_n 1, 1) := by decide +kernel
theorem dX9_ofMessage_57 : decode cX9_ofMessage 57 = .ok (.iaload, 1) := by decide +kernel
theorem dX9_ofMessage_58 : decode cX9_ofMessage 58 = .ok (.ireturn, 1) := by decide +kernel
theorem dX9_ofMessage_59 : decode cX9_ofMessage 59 = .ok (.aload_n 0, 1) := by decide +kernel
theorem dX9_ofMessage_60 : decode cX9_ofMessage 60 = .ok (.getfield 80, 3) := by decide +kernel
theorem dX9_ofMessage_63 : decode cX9_ofMessage 63 = .ok (.iload_n 1, 1) := by decide +kernel
theorem dX9_ofMessage_64 : decode cX9_ofMessage 64 = .ok (.iaload, 1) := by decide +kernel
theorem dX9_ofMessage_65 : decode cX9_ofMessage 65 = .ok (.ireturn, 1) := by decide +kernel
theorem dX9_ofMessage_66 : decode cX9_ofMessage 66 = .ok (.aload_n 0, 1) := by decide +kernel
theorem dX9_ofMessage_67 : decode cX9_ofMessage 67 = .ok (.getfield 83, 3) := by decide +kernel
theorem dX9_ofMessage_70 : decode cX9_ofMessage 70 = .ok (.iload_n 1, 1) := by decide +kernel
theorem dX9_ofMessage_71 : decode cX9_ofMessage 71 = .ok (.iaload, 1) := by decide +kernel
theorem dX9_ofMessage_72 : decode cX9_ofMessage 72 = .ok (.ireturn, 1) := by decide +kernel
theorem dX9_ofMessage_73 : decode cX9_ofMessage 73 = .ok (.aload_n 0, 1) := by decide +kernel
theorem dX9_ofMessage_74 : decode cX9_ofMessage 74 = .ok (.getfield 86, 3) := by decide +kernel
theorem dX9_ofMessage_77 : decode cX9_ofMessage 77 = .ok (.iload_n 1, 1) := by decide +kernel
theorem dX9_ofMessage_78 : decode cX9_ofMessage 78 = .ok (.iaload, 1) := by decide +kernel
theorem dX9_ofMessage_79 : decode cX9_ofMessage 79 = .ok (.ireturn, 1) := by decide +kernel
theorem dX9_ofMessage_80 : decode cX9_ofMessage 80 = .ok (.aload_n 0, 1) := by decide +kernel
theorem dX9_ofMessage_81 : decode cX9_ofMessage 81 = .ok (.iload_n 1, 1) := by decide +kernel
theorem dX9_ofMessage_82 : decode cX9_ofMessage 82 = .ok (.invokevirtual 190, 3) := by decide +kernel
theorem dX9_ofMessage_85 : decode cX9_ofMessage 85 = .ok (.ireturn, 1) := by decide +kernel
theorem dX9_ofMessage_86 : decode cX9_ofMessage 86 = .ok (.aload_n 0, 1) := by decide +kernel
theorem dX9_ofMessage_87 : decode cX9_ofMessage 87 = .ok (.getfield 89, 3) := by decide +kernel
theorem dX9_ofMessage_90 : decode cX9_ofMessage 90 = .ok (.iload_n 1, 1) := by decide +kernel
theorem dX9_ofMessage_91 : decode cX9_ofMessage 91 = .ok (.iaload, 1) := by decide +kernel
theorem dX9_ofMessage_92 : decode cX9_ofMessage 92 = .ok (.ireturn, 1) := by decide +kernel
theorem dX9_ofMessage_93 : decode cX9_ofMessage 93 = .ok (.aload_n 0, 1) := by decide +kernel
theorem dX9_ofMessage_94 : decode cX9_ofMessage 94 = .ok (.iconst 2, 1) := by decide +kernel
theorem dX9_ofMessage_95 : decode cX9_ofMessage 95 = .ok (.invokevirtual 154, 3) := by decide +kernel
theorem dX9_ofMessage_98 : decode cX9_ofMessage 98 = .ok (.ireturn, 1) := by decide +kernel
theorem dX9_word_0 : decode cX9_word 0 = .ok (.aload_n 0, 1) := by decide +kernel
theorem dX9_word_1 : decode cX9_word 1 = .ok (.aload_n 0, 1) := by decide +kernel
theorem dX9_word_2 : decode cX9_word 2 = .ok (.iload_n 1, 1) := by decide +kernel
theorem dX9_word_3 : decode cX9_word 3 = .ok (.invokevirtual 257, 3) := by decide +kernel
theorem dX9_word_6 : decode cX9_word 6 = .ok (.ifCond .eq 23, 3) := by decide +kernel
theorem dX9_word_9 : decode cX9_word 9 = .ok (.iload_n 2, 1) := by decide +kernel
theorem dX9_word_10 : decode cX9_word 10 = .ok (.iconst 0, 1) := by decide +kernel
theorem dX9_word_11 : decode cX9_word 11 = .ok (.aload_n 0, 1) := by decide +kernel
theorem dX9_word_12 : decode cX9_word 12 = .ok (.getfield 80, 3) := by decide +kernel
theorem dX9_word_15 : decode cX9_word 15 = .ok (.iload_n 1, 1) := by decide +kernel
theorem dX9_word_16 : decode cX9_word 16 = .ok (.iaload, 1) := by decide +kernel
theorem dX9_word_17 : decode cX9_word 17 = .ok (.iconst 1, 1) := by decide +kernel
theorem dX9_word_18 : decode cX9_word 18 = .ok (.isub, 1) := by decide +kernel
theorem dX9_word_19 : decode cX9_word 19 = .ok (.invokestatic 129, 3) := by decide +kernel
theorem dX9_word_22 : decode cX9_word 22 = .ok (.ifCond .eq 7, 3) := by decide +kernel
theorem dX9_word_25 : decode cX9_word 25 = .ok (.iconst 1, 1) := by decide +kernel
theorem dX9_word_26 : decode cX9_word 26 = .ok (.goto 4, 3) := by decide +kernel
theorem dX9_word_29 : decode cX9_word 29 = .ok (.iconst 0, 1) := by decide +kernel
theorem dX9_word_30 : decode cX9_word 30 = .ok (.invokevirtual 150, 3) := by decide +kernel
theorem dX9_word_33 : decode cX9_word 33 = .ok (.ifCond .ne 5, 3) := by decide +kernel
theorem dX9_word_36 : decode cX9_word 36 = .ok (.iconst 0, 1) := by decide +kernel
theorem dX9_word_37 : decode cX9_word 37 = .ok (.ireturn, 1) := by decide +kernel
theorem dX9_word_38 : decode cX9_word 38 = .ok (.iload_n 3, 1) := by decide +kernel
theorem dX9_word_39 : decode cX9_word 39 = .ok (.ifCond .eq 17, 3) := by decide +kernel
theorem dX9_word_42 : decode cX9_word 42 = .ok (.aload_n 0, 1) := by decide +kernel
theorem dX9_word_43 : decode cX9_word 43 = .ok (.getfield 95, 3) := by decide +kernel
theorem dX9_word_46 : decode cX9_word 46 = .ok (.bipush 24, 2) := by decide +kernel
theorem dX9_word_48 : decode cX9_word 48 = .ok (.iload_n 1, 1) := by decide +kernel
theorem dX9_word_49 : decode cX9_word 49 = .ok (.imul, 1) := by decide +kernel
theorem dX9_word_50 : decode cX9_word 50 = .ok (.iload_n 2, 1) := by decide +kernel
theorem dX9_word_51 : decode cX9_word 51 = .ok (.iadd, 1) := by decide +kernel
theorem dX9_word_52 : decode cX9_word 52 = .ok (.iaload, 1) := by decide +kernel
theorem dX9_word_53 : decode cX9_word 53 = .ok (.goto 14, 3) := by decide +kernel
theorem dX9_word_56 : decode cX9_word 56 = .ok (.aload_n 0, 1) := by decide +kernel
theorem dX9_word_57 : decode cX9_word 57 = .ok (.getfield 98, 3) := by decide +kernel
theorem dX9_word_60 : decode cX9_word 60 = .ok (.bipush 24, 2) := by decide +kernel
theorem dX9_word_62 : decode cX9_word 62 = .ok (.iload_n 1, 1) := by decide +kernel
theorem dX9_word_63 : decode cX9_word 63 = .ok (.imul, 1) := by decide +kernel
theorem dX9_word_64 : decode cX9_word 64 = .ok (.iload_n 2, 1) := by decide +kernel
theorem dX9_word_65 : decode cX9_word 65 = .ok (.iadd, 1) := by decide +kernel
theorem dX9_word_66 : decode cX9_word 66 = .ok (.iaload, 1) := by decide +kernel
theorem dX9_word_67 : decode cX9_word 67 = .ok (.ireturn, 1) := by decide +kernel
theorem dX9_readAs_0 : decode cX9_readAs 0 = .ok (.aload_n 0, 1) := by decide +kernel
theorem dX9_readAs_1 : decode cX9_readAs 1 = .ok (.getfield 98, 3) := by decide +kernel
theorem dX9_readAs_4 : decode cX9_readAs 4 = .ok (.bipush 24, 2) := by decide +kernel
theorem dX9_readAs_6 : decode cX9_readAs 6 = .ok (.iload_n 1, 1) := by decide +kernel
theorem dX9_readAs_7 : decode cX9_readAs 7 = .ok (.imul, 1) := by decide +kernel
theorem dX9_readAs_8 : decode cX9_readAs 8 = .ok (.iload_n 2, 1) := by decide +kernel
theorem dX9_readAs_9 : decode cX9_readAs 9 = .ok (.iadd, 1) := by decide +kernel
theorem dX9_readAs_10 : decode cX9_readAs 10 = .ok (.iaload, 1) := by decide +kernel
theorem dX9_readAs_11 : decode cX9_readAs 11 = .ok (.istore_n 3, 1) := by decide +kernel
theorem dX9_readAs_12 : decode cX9_readAs 12 = .ok (.aload_n 0, 1) := by decide +kernel
theorem dX9_readAs_13 : decode cX9_readAs 13 = .ok (.iload_n 3, 1) := by decide +kernel
theorem dX9_readAs_14 : decode cX9_readAs 14 = .ok (.invokevirtual 181, 3) := by decide +kernel
theorem dX9_readAs_17 : decode cX9_readAs 17 = .ok (.iconst 1, 1) := by decide +kernel
theorem dX9_readAs_18 : decode cX9_readAs 18 = .ok (.if_icmp .eq 5, 3) := by decide +kernel
theorem dX9_readAs_21 : decode cX9_readAs 21 = .ok (.iconst (-1), 1) := by decide +kernel
theorem dX9_readAs_22 : decode cX9_readAs 22 = .ok (.ireturn, 1) := by decide +kernel
theorem dX9_readAs_23 : decode cX9_readAs 23 = .ok (.aload_n 0, 1) := by decide +kernel
theorem dX9_readAs_24 : decode cX9_readAs 24 = .ok (.iload_n 3, 1) := by decide +kernel
theorem dX9_readAs_25 : decode cX9_readAs 25 = .ok (.iconst 0, 1) := by decide +kernel
theorem dX9_readAs_26 : decode cX9_readAs 26 = .ok (.invokevirtual 178, 3) := by decide +kernel
theorem dX9_readAs_29 : decode cX9_readAs 29 = .ok (.aload_n 0, 1) := by decide +kernel
theorem dX9_readAs_30 : decode cX9_readAs 30 = .ok (.getfield 23, 3) := by decide +kernel
theorem dX9_readAs_33 : decode cX9_readAs 33 = .ok (.aload_n 0, 1) := by decide +kernel
theorem dX9_readAs_34 : decode cX9_readAs 34 = .ok (.getfield 71, 3) := by decide +kernel
theorem dX9_readAs_37 : decode cX9_readAs 37 = .ok (.iload_n 1, 1) := by decide +kernel
theorem dX9_readAs_38 : decode cX9_readAs 38 = .ok (.iaload, 1) := by decide +kernel
theorem dX9_readAs_39 : decode cX9_readAs 39 = .ok (.iaload, 1) := by decide +kernel
theorem dX9_readAs_40 : decode cX9_readAs 40 = .ok (.aload_n 0, 1) := by decide +kernel
theorem dX9_readAs_41 : decode cX9_readAs 41 = .ok (.getfield 168, 3) := by decide +kernel
theorem dX9_readAs_44 : decode cX9_readAs 44 = .ok (.irem, 1) := by decide +kernel
theorem dX9_readAs_45 : decode cX9_readAs 45 = .ok (.isub, 1) := by decide +kernel
theorem dX9_readAs_46 : decode cX9_readAs 46 = .ok (.istore 4, 2) := by decide +kernel
theorem dX9_readAs_48 : decode cX9_readAs 48 = .ok (.iload 4, 2) := by decide +kernel
theorem dX9_readAs_50 : decode cX9_readAs 50 = .ok (.ifCond .ge 13, 3) := by decide +kernel
theorem dX9_readAs_53 : decode cX9_readAs 53 = .ok (.iload 4, 2) := by decide +kernel
theorem dX9_readAs_55 : decode cX9_readAs 55 = .ok (.aload_n 0, 1) := by decide +kernel
theorem dX9_readAs_56 : decode cX9_readAs 56 = .ok (.getfield 168, 3) := by decide +kernel
theorem dX9_readAs_59 : decode cX9_readAs 59 = .ok (.iadd, 1) := by decide +kernel
theorem dX9_readAs_60 : decode cX9_readAs 60 = .ok (.goto 5, 3) := by decide +kernel
theorem dX9_readAs_63 : decode cX9_readAs 63 = .ok (.iload 4, 2) := by decide +kernel
theorem dX9_readAs_65 : decode cX9_readAs 65 = .ok (.ireturn, 1) := by decide +kernel
theorem dX9_read_0 : decode cX9_read 0 = .ok (.aload_n 0, 1) := by decide +kernel
theorem dX9_read_1 : decode cX9_read 1 = .ok (.aload_n 0, 1) := by decide +kernel
theorem dX9_read_2 : decode cX9_read 2 = .ok (.iload_n 1, 1) := by decide +kernel
theorem dX9_read_3 : decode cX9_read 3 = .ok (.invokevirtual 257, 3) := by decide +kernel
theorem dX9_read_6 : decode cX9_read 6 = .ok (.ifCond .eq 11, 3) := by decide +kernel
theorem dX9_read_9 : decode cX9_read 9 = .ok (.iload_n 2, 1) := by decide +kernel
theorem dX9_read_10 : decode cX9_read 10 = .ok (.ifCond .lt 7, 3) := by decide +kernel
theorem dX9_read_13 : decode cX9_read 13 = .ok (.iconst 1, 1) := by decide +kernel
theorem dX9_read_14 : decode cX9_read 14 = .ok (.goto 4, 3) := by decide +kernel
theorem dX9_read_17 : decode cX9_read 17 = .ok (.iconst 0, 1) := by decide +kernel
theorem dX9_read_18 : decode cX9_read 18 = .ok (.invokevirtual 150, 3) := by decide +kernel
theorem dX9_read_21 : decode cX9_read 21 = .ok (.ifCond .ne 5, 3) := by decide +kernel
theorem dX9_read_24 : decode cX9_read 24 = .ok (.iconst 0, 1) := by decide +kernel
theorem dX9_read_25 : decode cX9_read 25 = .ok (.ireturn, 1) := by decide +kernel
theorem dX9_read_26 : decode cX9_read 26 = .ok (.iload_n 2, 1) := by decide +kernel
theorem dX9_read_27 : decode cX9_read 27 = .ok (.istore_n 3, 1) := by decide +kernel
theorem dX9_read_28 : decode cX9_read 28 = .ok (.iconst 0, 1) := by decide +kernel
theorem dX9_read_29 : decode cX9_read 29 = .ok (.istore 4, 2) := by decide +kernel
theorem dX9_read_31 : decode cX9_read 31 = .ok (.iload 4, 2) := by decide +kernel
theorem dX9_read_33 : decode cX9_read 33 = .ok (.aload_n 0, 1) := by decide +kernel
theorem dX9_read_34 : decode cX9_read 34 = .ok (.getfield 80, 3) := by decide +kernel
theorem dX9_read_37 : decode cX9_read 37 = .ok (.iload_n 1, 1) := by decide +kernel
theorem dX9_read_38 : decode cX9_read 38 = .ok (.iaload, 1) := by decide +kernel
theorem dX9_read_39 : decode cX9_read 39 = .ok (.if_icmp .ge 131, 3) := by decide +kernel
theorem dX9_read_42 : decode cX9_read 42 = .ok (.aload_n 0, 1) := by decide +kernel
theorem dX9_read_43 : decode cX9_read 43 = .ok (.iload_n 1, 1) := by decide +kernel
theorem dX9_read_44 : decode cX9_read 44 = .ok (.iload 4, 2) := by decide +kernel
theorem dX9_read_46 : decode cX9_read 46 = .ok (.invokevirtual 260, 3) := by decide +kernel
theorem dX9_read_49 : decode cX9_read 49 = .ok (.ifCond .ne 30, 3) := by decide +kernel
theorem dX9_read_52 : decode cX9_read 52 = .ok (.iload_n 3, 1) := by decide +kernel
theorem dX9_read_53 : decode cX9_read 53 = .ok (.ifCond .ne 20, 3) := by decide +kernel
theorem dX9_read_56 : decode cX9_read 56 = .ok (.iconst (-1), 1) := by decide +kernel
theorem dX9_read_57 : decode cX9_read 57 = .ok (.aload_n 0, 1) := by decide +kernel
theorem dX9_read_58 : decode cX9_read 58 = .ok (.getfield 98, 3) := by decide +kernel
theorem dX9_read_61 : decode cX9_read 61 = .ok (.bipush 24, 2) := by decide +kernel
theorem dX9_read_63 : decode cX9_read 63 = .ok (.iload_n 1, 1) := by decide +kernel
theorem dX9_read_64 : decode cX9_read 64 = .ok (.imul, 1) := by decide +kernel
theorem dX9_read_65 : decode cX9_read 65 = .ok (.iload 4, 2) := by decide +kernel
theorem dX9_read_67 : decode cX9_read 67 = .ok (.iadd, 1) := by decide +kernel
theorem dX9_read_68 : decode cX9_read 68 = .ok (.iaload, 1) := by decide +kernel
theorem dX9_read_69 : decode cX9_read 69 = .ok (.isub, 1) := by decide +kernel
theorem dX9_read_70 : decode cX9_read 70 = .ok (.iconst 1, 1) := by decide +kernel
theorem dX9_read_71 : decode cX9_read 71 = .ok (.isub, 1) := by decide +kernel
theorem dX9_read_72 : decode cX9_read 72 = .ok (.ireturn, 1) := by decide +kernel
theorem dX9_read_73 : decode cX9_read 73 = .ok (.iinc 3 (-1), 3) := by decide +kernel
theorem dX9_read_76 : decode cX9_read 76 = .ok (.goto 88, 3) := by decide +kernel
theorem dX9_read_79 : decode cX9_read 79 = .ok (.aload_n 0, 1) := by decide +kernel
theorem dX9_read_80 : decode cX9_read 80 = .ok (.iload_n 1, 1) := by decide +kernel
theorem dX9_read_81 : decode cX9_read 81 = .ok (.iload 4, 2) := by decide +kernel
theorem dX9_read_83 : decode cX9_read 83 = .ok (.invokevirtual 271, 3) := by decide +kernel
theorem dX9_read_86 : decode cX9_read 86 = .ok (.istore 5, 2) := by decide +kernel
theorem dX9_read_88 : decode cX9_read 88 = .ok (.iconst 0, 1) := by decide +kernel
theorem dX9_read_89 : decode cX9_read 89 = .ok (.istore 6, 2) := by decide +kernel
theorem dX9_read_91 : decode cX9_read 91 = .ok (.iload 6, 2) := by decide +kernel
theorem dX9_read_93 : decode cX9_read 93 = .ok (.iconst 4, 1) := by decide +kernel
theorem dX9_read_94 : decode cX9_read 94 = .ok (.if_icmp .ge 70, 3) := by decide +kernel
theorem dX9_read_97 : decode cX9_read 97 = .ok (.iload 5, 2) := by decide +kernel
theorem dX9_read_99 : decode cX9_read 99 = .ok (.iconst (-1), 1) := by decide +kernel
theorem dX9_read_100 : decode cX9_read 100 = .ok (.if_icmp .ne 17, 3) := by decide +kernel
theorem dX9_read_103 : decode cX9_read 103 = .ok (.iload 6, 2) := by decide +kernel
theorem dX9_read_105 : decode cX9_read 105 = .ok (.ifCond .ne 8, 3) := by decide +kernel
theorem dX9_read_108 : decode cX9_read 108 = .ok (.bipush (-2), 2) := by decide +kernel
theorem dX9_read_110 : decode cX9_read 110 = .ok (.goto 19, 3) := by decide +kernel
theorem dX9_read_113 : decode cX9_read 113 = .ok (.iconst (-1), 1) := by decide +kernel
theorem dX9_read_114 : decode cX9_read 114 = .ok (.goto 15, 3) := by decide +kernel
theorem dX9_read_117 : decode cX9_read 117 = .ok (.aload_n 0, 1) := by decide +kernel
theorem dX9_read_118 : decode cX9_read 118 = .ok (.getfield 16, 3) := by decide +kernel
theorem dX9_read_121 : decode cX9_read 121 = .ok (.iconst 4, 1) := by decide +kernel
theorem dX9_read_122 : decode cX9_read 122 = .ok (.iload 5, 2) := by decide +kernel
theorem dX9_read_124 : decode cX9_read 124 = .ok (.imul, 1) := by decide +kernel
theorem dX9_read_125 : decode cX9_read 125 = .ok (.iload 6, 2) := by decide +kernel
theorem dX9_read_127 : decode cX9_read 127 = .ok (.iadd, 1) := by decide +kernel
theorem dX9_read_128 : decode cX9_read 128 = .ok (.iaload, 1) := by decide +kernel
theorem dX9_read_129 : decode cX9_read 129 = .ok (.istore 7, 2) := by decide +kernel
theorem dX9_read_131 : decode cX9_read 131 = .ok (.iload 7, 2) := by decide +kernel
theorem dX9_read_133 : decode cX9_read 133 = .ok (.iconst (-1), 1) := by decide +kernel
theorem dX9_read_134 : decode cX9_read 134 = .ok (.if_icmp .eq 10, 3) := by decide +kernel
theorem dX9_read_137 : decode cX9_read 137 = .ok (.iload_n 3, 1) := by decide +kernel
theorem dX9_read_138 : decode cX9_read 138 = .ok (.ifCond .ne 6, 3) := by decide +kernel
theorem dX9_read_141 : decode cX9_read 141 = .ok (.iload 7, 2) := by decide +kernel
theorem dX9_read_143 : decode cX9_read 143 = .ok (.ireturn, 1) := by decide +kernel
theorem dX9_read_144 : decode cX9_read 144 = .ok (.iload_n 3, 1) := by decide +kernel
theorem dX9_read_145 : decode cX9_read 145 = .ok (.iload 7, 2) := by decide +kernel
theorem dX9_read_147 : decode cX9_read 147 = .ok (.iconst (-1), 1) := by decide +kernel
theorem dX9_read_148 : decode cX9_read 148 = .ok (.if_icmp .ne 7, 3) := by decide +kernel
theorem dX9_read_151 : decode cX9_read 151 = .ok (.iconst 0, 1) := by decide +kernel
theorem dX9_read_152 : decode cX9_read 152 = .ok (.goto 4, 3) := by decide +kernel
theorem dX9_read_155 : decode cX9_read 155 = .ok (.iconst 1, 1) := by decide +kernel
theorem dX9_read_156 : decode cX9_read 156 = .ok (.isub, 1) := by decide +kernel
theorem dX9_read_157 : decode cX9_read 157 = .ok (.istore_n 3, 1) := by decide +kernel
theorem dX9_read_158 : decode cX9_read 158 = .ok (.iinc 6 1, 3) := by decide +kernel
theorem dX9_read_161 : decode cX9_read 161 = .ok (.goto (-70), 3) := by decide +kernel
theorem dX9_read_164 : decode cX9_read 164 = .ok (.iinc 4 1, 3) := by decide +kernel
theorem dX9_read_167 : decode cX9_read 167 = .ok (.goto (-136), 3) := by decide +kernel
theorem dX9_read_170 : decode cX9_read 170 = .ok (.iconst (-1), 1) := by decide +kernel
theorem dX9_read_171 : decode cX9_read 171 = .ok (.ireturn, 1) := by decide +kernel
theorem dX9_claim_0 : decode cX9_claim 0 = .ok (.aload_n 0, 1) := by decide +kernel
theorem dX9_claim_1 : decode cX9_claim 1 = .ok (.aload_n 0, 1) := by decide +kernel
theorem dX9_claim_2 : decode cX9_claim 2 = .ok (.iload_n 1, 1) := by decide +kernel
theorem dX9_claim_3 : decode cX9_claim 3 = .ok (.invokevirtual 257, 3) := by decide +kernel
theorem dX9_claim_6 : decode cX9_claim 6 = .ok (.invokevirtual 150, 3) := by decide +kernel
theorem dX9_claim_9 : decode cX9_claim 9 = .ok (.ifCond .ne 5, 3) := by decide +kernel
theorem dX9_claim_12 : decode cX9_claim 12 = .ok (.iconst 0, 1) := by decide +kernel
theorem dX9_claim_13 : decode cX9_claim 13 = .ok (.ireturn, 1) := by decide +kernel
theorem dX9_claim_14 : decode cX9_claim 14 = .ok (.iconst 0, 1) := by decide +kernel
theorem dX9_claim_15 : decode cX9_claim 15 = .ok (.istore_n 2, 1) := by decide +kernel
theorem dX9_claim_16 : decode cX9_claim 16 = .ok (.iload_n 2, 1) := by decide +kernel
theorem dX9_claim_17 : decode cX9_claim 17 = .ok (.iconst 5, 1) := by decide +kernel
theorem dX9_claim_18 : decode cX9_claim 18 = .ok (.aload_n 0, 1) := by decide +kernel
theorem dX9_claim_19 : decode cX9_claim 19 = .ok (.getfield 80, 3) := by decide +kernel
theorem dX9_claim_22 : decode cX9_claim 22 = .ok (.iload_n 1, 1) := by decide +kernel
theorem dX9_claim_23 : decode cX9_claim 23 = .ok (.iaload, 1) := by decide +kernel
theorem dX9_claim_24 : decode cX9_claim 24 = .ok (.imul, 1) := by decide +kernel
theorem dX9_claim_25 : decode cX9_claim 25 = .ok (.if_icmp .ge 58, 3) := by decide +kernel
theorem dX9_claim_28 : decode cX9_claim 28 = .ok (.bipush 24, 2) := by decide +kernel
theorem dX9_claim_30 : decode cX9_claim 30 = .ok (.iload_n 1, 1) := by decide +kernel
theorem dX9_claim_31 : decode cX9_claim 31 = .ok (.imul, 1) := by decide +kernel
theorem dX9_claim_32 : decode cX9_claim 32 = .ok (.iload_n 2, 1) := by decide +kernel
theorem dX9_claim_33 : decode cX9_claim 33 = .ok (.iconst 5, 1) := by decide +kernel
theorem dX9_claim_34 : decode cX9_claim 34 = .ok (.idiv, 1) := by decide +kernel
theorem dX9_claim_35 : decode cX9_claim 35 = .ok (.iadd, 1) := by decide +kernel
theorem dX9_claim_36 : decode cX9_claim 36 = .ok (.istore_n 3, 1) := by decide +kernel
theorem dX9_claim_37 : decode cX9_claim 37 = .ok (.aload_n 0, 1) := by decide +kernel
theorem dX9_claim_38 : decode cX9_claim 38 = .ok (.iload_n 1, 1) := by decide +kernel
theorem dX9_claim_39 : decode cX9_claim 39 = .ok (.iload_n 2, 1) := by decide +kernel
theorem dX9_claim_40 : decode cX9_claim 40 = .ok (.iconst 5, 1) := by decide +kernel
theorem dX9_claim_41 : decode cX9_claim 41 = .ok (.idiv, 1) := by decide +kernel
theorem dX9_claim_42 : decode cX9_claim 42 = .ok (.invokevirtual 260, 3) := by decide +kernel
theorem dX9_claim_45 : decode cX9_claim 45 = .ok (.ifCond .eq 32, 3) := by decide +kernel
theorem dX9_claim_48 : decode cX9_claim 48 = .ok (.aload_n 0, 1) := by decide +kernel
theorem dX9_claim_49 : decode cX9_claim 49 = .ok (.getfield 95, 3) := by decide +kernel
theorem dX9_claim_52 : decode cX9_claim 52 = .ok (.iload_n 3, 1) := by decide +kernel
theorem dX9_claim_53 : decode cX9_claim 53 = .ok (.iaload, 1) := by decide +kernel
theorem dX9_claim_54 : decode cX9_claim 54 = .ok (.iload_n 2, 1) := by decide +kernel
theorem dX9_claim_55 : decode cX9_claim 55 = .ok (.iconst 5, 1) := by decide +kernel
theorem dX9_claim_56 : decode cX9_claim 56 = .ok (.irem, 1) := by decide +kernel
theorem dX9_claim_57 : decode cX9_claim 57 = .ok (.invokestatic 143, 3) := by decide +kernel
theorem dX9_claim_60 : decode cX9_claim 60 = .ok (.aload_n 0, 1) := by decide +kernel
theorem dX9_claim_61 : decode cX9_claim 61 = .ok (.getfield 98, 3) := by decide +kernel
theorem dX9_claim_64 : decode cX9_claim 64 = .ok (.iload_n 3, 1) := by decide +kernel
theorem dX9_claim_65 : decode cX9_claim 65 = .ok (.iaload, 1) := by decide +kernel
theorem dX9_claim_66 : decode cX9_claim 66 = .ok (.iload_n 2, 1) := by decide +kernel
theorem dX9_claim_67 : decode cX9_claim 67 = .ok (.iconst 5, 1) := by decide +kernel
theorem dX9_claim_68 : decode cX9_claim 68 = .ok (.irem, 1) := by decide +kernel
theorem dX9_claim_69 : decode cX9_claim 69 = .ok (.invokestatic 143, 3) := by decide +kernel
theorem dX9_claim_72 : decode cX9_claim 72 = .ok (.if_icmp .eq 5, 3) := by decide +kernel
theorem dX9_claim_75 : decode cX9_claim 75 = .ok (.iload_n 2, 1) := by decide +kernel
theorem dX9_claim_76 : decode cX9_claim 76 = .ok (.ireturn, 1) := by decide +kernel
theorem dX9_claim_77 : decode cX9_claim 77 = .ok (.iinc 2 1, 3) := by decide +kernel
theorem dX9_claim_80 : decode cX9_claim 80 = .ok (.goto (-64), 3) := by decide +kernel
theorem dX9_claim_83 : decode cX9_claim 83 = .ok (.iconst (-1), 1) := by decide +kernel
theorem dX9_claim_84 : decode cX9_claim 84 = .ok (.ireturn, 1) := by decide +kernel
theorem dX9_account_0 : decode cX9_account 0 = .ok (.aload_n 0, 1) := by decide +kernel
theorem dX9_account_1 : decode cX9_account 1 = .ok (.aload_n 0, 1) := by decide +kernel
theorem dX9_account_2 : decode cX9_account 2 = .ok (.iload_n 1, 1) := by decide +kernel
theorem dX9_account_3 : decode cX9_account 3 = .ok (.invokevirtual 184, 3) := by decide +kernel
theorem dX9_account_6 : decode cX9_account 6 = .ok (.invokevirtual 150, 3) := by decide +kernel
theorem dX9_account_9 : decode cX9_account 9 = .ok (.ifCond .eq 12, 3) := by decide +kernel
theorem dX9_account_12 : decode cX9_account 12 = .ok (.aload_n 0, 1) := by decide +kernel
theorem dX9_account_13 : decode cX9_account 13 = .ok (.getfield 29, 3) := by decide +kernel
theorem dX9_account_16 : decode cX9_account 16 = .ok (.iload_n 1, 1) := by decide +kernel
theorem dX9_account_17 : decode cX9_account 17 = .ok (.iaload, 1) := by decide +kernel
theorem dX9_account_18 : decode cX9_account 18 = .ok (.goto 4, 3) := by decide +kernel
theorem dX9_account_21 : decode cX9_account 21 = .ok (.iconst 0, 1) := by decide +kernel
theorem dX9_account_22 : decode cX9_account 22 = .ok (.ireturn, 1) := by decide +kernel
theorem dX9_accountAnew_0 : decode cX9_accountAnew 0 = .ok (.aload_n 0, 1) := by decide +kernel
theorem dX9_accountAnew_1 : decode cX9_accountAnew 1 = .ok (.aload_n 0, 1) := by decide +kernel
theorem dX9_accountAnew_2 : decode cX9_accountAnew 2 = .ok (.iload_n 1, 1) := by decide +kernel
theorem dX9_accountAnew_3 : decode cX9_accountAnew 3 = .ok (.invokevirtual 184, 3) := by decide +kernel
theorem dX9_accountAnew_6 : decode cX9_accountAnew 6 = .ok (.invokevirtual 150, 3) := by decide +kernel
theorem dX9_accountAnew_9 : decode cX9_accountAnew 9 = .ok (.ifCond .eq 12, 3) := by decide +kernel
theorem dX9_accountAnew_12 : decode cX9_accountAnew 12 = .ok (.aload_n 0, 1) := by decide +kernel
theorem dX9_accountAnew_13 : decode cX9_accountAnew 13 = .ok (.getfield 29, 3) := by decide +kernel
theorem dX9_accountAnew_16 : decode cX9_accountAnew 16 = .ok (.iload_n 1, 1) := by decide +kernel
theorem dX9_accountAnew_17 : decode cX9_accountAnew 17 = .ok (.iaload, 1) := by decide +kernel
theorem dX9_accountAnew_18 : decode cX9_accountAnew 18 = .ok (.goto 4, 3) := by decide +kernel
theorem dX9_accountAnew_21 : decode cX9_accountAnew 21 = .ok (.iconst 0, 1) := by decide +kernel
theorem dX9_accountAnew_22 : decode cX9_accountAnew 22 = .ok (.ireturn, 1) := by decide +kernel
end
section
theorem dL_idea_0 : decode cL_idea 0 = .ok (.aload_n 2, 1) := by decide +kernel
theorem dL_idea_1 : decode cL_idea 1 = .ok (.iconst 0, 1) := by decide +kernel
theorem dL_idea_2 : decode cL_idea 2 = .ok (.aload_n 0, 1) := by decide +kernel
theorem dL_idea_3 : decode cL_idea 3 = .ok (.iload_n 1, 1) := by decide +kernel
theorem dL_idea_4 : decode cL_idea 4 = .ok (.invokevirtual 7, 3) := by decide +kernel
theorem dL_idea_7 : decode cL_idea 7 = .ok (.i2l, 1) := by decide +kernel
theorem dL_idea_8 : decode cL_idea 8 = .ok (.lastore, 1) := by decide +kernel
theorem dL_idea_9 : decode cL_idea 9 = .ok (.goto 9, 3) := by decide +kernel
theorem dL_idea_12 : decode cL_idea 12 = .ok (.astore_n 3, 1) := by decide +kernel
theorem dL_idea_13 : decode cL_idea 13 = .ok (.iconst 1, 1) := by decide +kernel
theorem dL_idea_14 : decode cL_idea 14 = .ok (.ireturn, 1) := by decide +kernel
theorem dL_idea_15 : decode cL_idea 15 = .ok (.astore_n 3, 1) := by decide +kernel
theorem dL_idea_16 : decode cL_idea 16 = .ok (.iconst 2, 1) := by decide +kernel
theorem dL_idea_17 : decode cL_idea 17 = .ok (.ireturn, 1) := by decide +kernel
theorem dL_idea_18 : decode cL_idea 18 = .ok (.iconst 0, 1) := by decide +kernel
theorem dL_idea_19 : decode cL_idea 19 = .ok (.ireturn, 1) := by decide +kernel
theorem dL_entry_0 : decode cL_entry 0 = .ok (.aload 6, 2) := by decide +kernel
theorem dL_entry_2 : decode cL_entry 2 = .ok (.iconst 0, 1) := by decide +kernel
theorem dL_entry_3 : decode cL_entry 3 = .ok (.aload_n 0, 1) := by decide +kernel
theorem dL_entry_4 : decode cL_entry 4 = .ok (.iload_n 1, 1) := by decide +kernel
theorem dL_entry_5 : decode cL_entry 5 = .ok (.iload_n 2, 1) := by decide +kernel
theorem dL_entry_6 : decode cL_entry 6 = .ok (.iload_n 3, 1) := by decide +kernel
theorem dL_entry_7 : decode cL_entry 7 = .ok (.iload 4, 2) := by decide +kernel
theorem dL_entry_9 : decode cL_entry 9 = .ok (.iload 5, 2) := by decide +kernel
theorem dL_entry_11 : decode cL_entry 11 = .ok (.invokevirtual 17, 3) := by decide +kernel
theorem dL_entry_14 : decode cL_entry 14 = .ok (.i2l, 1) := by decide +kernel
theorem dL_entry_15 : decode cL_entry 15 = .ok (.lastore, 1) := by decide +kernel
theorem dL_entry_16 : decode cL_entry 16 = .ok (.goto 15, 3) := by decide +kernel
theorem dL_entry_19 : decode cL_entry 19 = .ok (.astore 7, 2) := by decide +kernel
theorem dL_entry_21 : decode cL_entry 21 = .ok (.iconst 1, 1) := by decide +kernel
theorem dL_entry_22 : decode cL_entry 22 = .ok (.ireturn, 1) := by decide +kernel
theorem dL_entry_23 : decode cL_entry 23 = .ok (.astore 7, 2) := by decide +kernel
theorem dL_entry_25 : decode cL_entry 25 = .ok (.iconst 2, 1) := by decide +kernel
theorem dL_entry_26 : decode cL_entry 26 = .ok (.ireturn, 1) := by decide +kernel
theorem dL_entry_27 : decode cL_entry 27 = .ok (.astore 7, 2) := by decide +kernel
theorem dL_entry_29 : decode cL_entry 29 = .ok (.iconst 3, 1) := by decide +kernel
theorem dL_entry_30 : decode cL_entry 30 = .ok (.ireturn, 1) := by decide +kernel
theorem dL_entry_31 : decode cL_entry 31 = .ok (.iconst 0, 1) := by decide +kernel
theorem dL_entry_32 : decode cL_entry 32 = .ok (.ireturn, 1) := by decide +kernel
theorem dL_candidates_0 : decode cL_candidates 0 = .ok (.aload_n 2, 1) := by decide +kernel
theorem dL_candidates_1 : decode cL_candidates 1 = .ok (.iconst 0, 1) := by decide +kernel
theorem dL_candidates_2 : decode cL_candidates 2 = .ok (.aload_n 0, 1) := by decide +kernel
theorem dL_candidates_3 : decode cL_candidates 3 = .ok (.iload_n 1, 1) := by decide +kernel
theorem dL_candidates_4 : decode cL_candidates 4 = .ok (.invokevirtual 23, 3) := by decide +kernel
theorem dL_candidates_7 : decode cL_candidates 7 = .ok (.i2l, 1) := by decide +kernel
theorem dL_candidates_8 : decode cL_candidates 8 = .ok (.lastore, 1) := by decide +kernel
theorem dL_candidates_9 : decode cL_candidates 9 = .ok (.goto 6, 3) := by decide +kernel
theorem dL_candidates_12 : decode cL_candidates 12 = .ok (.astore_n 3, 1) := by decide +kernel
theorem dL_candidates_13 : decode cL_candidates 13 = .ok (.iconst 1, 1) := by decide +kernel
theorem dL_candidates_14 : decode cL_candidates 14 = .ok (.ireturn, 1) := by decide +kernel
theorem dL_candidates_15 : decode cL_candidates 15 = .ok (.iconst 0, 1) := by decide +kernel
theorem dL_candidates_16 : decode cL_candidates 16 = .ok (.ireturn, 1) := by decide +kernel
theorem dL_candidate_0 : decode cL_candidate 0 = .ok (.aload_n 3, 1) := by decide +kernel
theorem dL_candidate_1 : decode cL_candidate 1 = .ok (.iconst 0, 1) := by decide +kernel
theorem dL_candidate_2 : decode cL_candidate 2 = .ok (.aload_n 0, 1) := by decide +kernel
theorem dL_candidate_3 : decode cL_candidate 3 = .ok (.iload_n 1, 1) := by decide +kernel
theorem dL_candidate_4 : decode cL_candidate 4 = .ok (.iload_n 2, 1) := by decide +kernel
theorem dL_candidate_5 : decode cL_candidate 5 = .ok (.invokevirtual 26, 3) := by decide +kernel
theorem dL_candidate_8 : decode cL_candidate 8 = .ok (.i2l, 1) := by decide +kernel
theorem dL_candidate_9 : decode cL_candidate 9 = .ok (.lastore, 1) := by decide +kernel
theorem dL_candidate_10 : decode cL_candidate 10 = .ok (.goto 11, 3) := by decide +kernel
theorem dL_candidate_13 : decode cL_candidate 13 = .ok (.astore 4, 2) := by decide +kernel
theorem dL_candidate_15 : decode cL_candidate 15 = .ok (.iconst 1, 1) := by decide +kernel
theorem dL_candidate_16 : decode cL_candidate 16 = .ok (.ireturn, 1) := by decide +kernel
theorem dL_candidate_17 : decode cL_candidate 17 = .ok (.astore 4, 2) := by decide +kernel
theorem dL_candidate_19 : decode cL_candidate 19 = .ok (.iconst 2, 1) := by decide +kernel
theorem dL_candidate_20 : decode cL_candidate 20 = .ok (.ireturn, 1) := by decide +kernel
theorem dL_candidate_21 : decode cL_candidate 21 = .ok (.iconst 0, 1) := by decide +kernel
theorem dL_candidate_22 : decode cL_candidate 22 = .ok (.ireturn, 1) := by decide +kernel
theorem dL_office_0 : decode cL_office 0 = .ok (.aload_n 1, 1) := by decide +kernel
theorem dL_office_1 : decode cL_office 1 = .ok (.iconst 0, 1) := by decide +kernel
theorem dL_office_2 : decode cL_office 2 = .ok (.aload_n 0, 1) := by decide +kernel
theorem dL_office_3 : decode cL_office 3 = .ok (.invokevirtual 30, 3) := by decide +kernel
theorem dL_office_6 : decode cL_office 6 = .ok (.i2l, 1) := by decide +kernel
theorem dL_office_7 : decode cL_office 7 = .ok (.lastore, 1) := by decide +kernel
theorem dL_office_8 : decode cL_office 8 = .ok (.goto 6, 3) := by decide +kernel
theorem dL_office_11 : decode cL_office 11 = .ok (.astore_n 2, 1) := by decide +kernel
theorem dL_office_12 : decode cL_office 12 = .ok (.iconst 1, 1) := by decide +kernel
theorem dL_office_13 : decode cL_office 13 = .ok (.ireturn, 1) := by decide +kernel
theorem dL_office_14 : decode cL_office 14 = .ok (.iconst 0, 1) := by decide +kernel
theorem dL_office_15 : decode cL_office 15 = .ok (.ireturn, 1) := by decide +kernel
theorem dL_cable_0 : decode cL_cable 0 = .ok (.aload 5, 2) := by decide +kernel
theorem dL_cable_2 : decode cL_cable 2 = .ok (.iconst 0, 1) := by decide +kernel
theorem dL_cable_3 : decode cL_cable 3 = .ok (.aload_n 0, 1) := by decide +kernel
theorem dL_cable_4 : decode cL_cable 4 = .ok (.iload_n 1, 1) := by decide +kernel
theorem dL_cable_5 : decode cL_cable 5 = .ok (.iload_n 2, 1) := by decide +kernel
theorem dL_cable_6 : decode cL_cable 6 = .ok (.iload_n 3, 1) := by decide +kernel
theorem dL_cable_7 : decode cL_cable 7 = .ok (.iload 4, 2) := by decide +kernel
theorem dL_cable_9 : decode cL_cable 9 = .ok (.invokevirtual 34, 3) := by decide +kernel
theorem dL_cable_12 : decode cL_cable 12 = .ok (.i2l, 1) := by decide +kernel
theorem dL_cable_13 : decode cL_cable 13 = .ok (.lastore, 1) := by decide +kernel
theorem dL_cable_14 : decode cL_cable 14 = .ok (.goto 15, 3) := by decide +kernel
theorem dL_cable_17 : decode cL_cable 17 = .ok (.astore 6, 2) := by decide +kernel
theorem dL_cable_19 : decode cL_cable 19 = .ok (.iconst 1, 1) := by decide +kernel
theorem dL_cable_20 : decode cL_cable 20 = .ok (.ireturn, 1) := by decide +kernel
theorem dL_cable_21 : decode cL_cable 21 = .ok (.astore 6, 2) := by decide +kernel
theorem dL_cable_23 : decode cL_cable 23 = .ok (.iconst 2, 1) := by decide +kernel
theorem dL_cable_24 : decode cL_cable 24 = .ok (.ireturn, 1) := by decide +kernel
theorem dL_cable_25 : decode cL_cable 25 = .ok (.astore 6, 2) := by decide +kernel
theorem dL_cable_27 : decode cL_cable 27 = .ok (.iconst 3, 1) := by decide +kernel
theorem dL_cable_28 : decode cL_cable 28 = .ok (.ireturn, 1) := by decide +kernel
theorem dL_cable_29 : decode cL_cable 29 = .ok (.iconst 0, 1) := by decide +kernel
theorem dL_cable_30 : decode cL_cable 30 = .ok (.ireturn, 1) := by decide +kernel
theorem dL_broken_0 : decode cL_broken 0 = .ok (.aload_n 3, 1) := by decide +kernel
theorem dL_broken_1 : decode cL_broken 1 = .ok (.iconst 0, 1) := by decide +kernel
theorem dL_broken_2 : decode cL_broken 2 = .ok (.aload_n 0, 1) := by decide +kernel
theorem dL_broken_3 : decode cL_broken 3 = .ok (.iload_n 1, 1) := by decide +kernel
theorem dL_broken_4 : decode cL_broken 4 = .ok (.iload_n 2, 1) := by decide +kernel
theorem dL_broken_5 : decode cL_broken 5 = .ok (.invokevirtual 38, 3) := by decide +kernel
theorem dL_broken_8 : decode cL_broken 8 = .ok (.i2l, 1) := by decide +kernel
theorem dL_broken_9 : decode cL_broken 9 = .ok (.lastore, 1) := by decide +kernel
theorem dL_broken_10 : decode cL_broken 10 = .ok (.goto 7, 3) := by decide +kernel
theorem dL_broken_13 : decode cL_broken 13 = .ok (.astore 4, 2) := by decide +kernel
theorem dL_broken_15 : decode cL_broken 15 = .ok (.iconst 1, 1) := by decide +kernel
theorem dL_broken_16 : decode cL_broken 16 = .ok (.ireturn, 1) := by decide +kernel
theorem dL_broken_17 : decode cL_broken 17 = .ok (.iconst 0, 1) := by decide +kernel
theorem dL_broken_18 : decode cL_broken 18 = .ok (.ireturn, 1) := by decide +kernel
theorem dL_forbid_0 : decode cL_forbid 0 = .ok (.aload_n 3, 1) := by decide +kernel
theorem dL_forbid_1 : decode cL_forbid 1 = .ok (.iconst 0, 1) := by decide +kernel
theorem dL_forbid_2 : decode cL_forbid 2 = .ok (.aload_n 0, 1) := by decide +kernel
theorem dL_forbid_3 : decode cL_forbid 3 = .ok (.iload_n 1, 1) := by decide +kernel
theorem dL_forbid_4 : decode cL_forbid 4 = .ok (.iload_n 2, 1) := by decide +kernel
theorem dL_forbid_5 : decode cL_forbid 5 = .ok (.invokevirtual 42, 3) := by decide +kernel
theorem dL_forbid_8 : decode cL_forbid 8 = .ok (.ifCond .eq 7, 3) := by decide +kernel
theorem dL_forbid_11 : decode cL_forbid 11 = .ok (.lconst 1, 1) := by decide +kernel
theorem dL_forbid_12 : decode cL_forbid 12 = .ok (.goto 4, 3) := by decide +kernel
theorem dL_forbid_15 : decode cL_forbid 15 = .ok (.lconst 0, 1) := by decide +kernel
theorem dL_forbid_16 : decode cL_forbid 16 = .ok (.lastore, 1) := by decide +kernel
theorem dL_forbid_17 : decode cL_forbid 17 = .ok (.goto 7, 3) := by decide +kernel
theorem dL_forbid_20 : decode cL_forbid 20 = .ok (.astore 4, 2) := by decide +kernel
theorem dL_forbid_22 : decode cL_forbid 22 = .ok (.iconst 1, 1) := by decide +kernel
theorem dL_forbid_23 : decode cL_forbid 23 = .ok (.ireturn, 1) := by decide +kernel
theorem dL_forbid_24 : decode cL_forbid 24 = .ok (.iconst 0, 1) := by decide +kernel
theorem dL_forbid_25 : decode cL_forbid 25 = .ok (.ireturn, 1) := by decide +kernel
theorem dL_key_0 : decode cL_key 0 = .ok (.aload_n 3, 1) := by decide +kernel
theorem dL_key_1 : decode cL_key 1 = .ok (.iconst 0, 1) := by decide +kernel
theorem dL_key_2 : decode cL_key 2 = .ok (.aload_n 0, 1) := by decide +kernel
theorem dL_key_3 : decode cL_key 3 = .ok (.iload_n 1, 1) := by decide +kernel
theorem dL_key_4 : decode cL_key 4 = .ok (.iload_n 2, 1) := by decide +kernel
theorem dL_key_5 : decode cL_key 5 = .ok (.invokevirtual 46, 3) := by decide +kernel
theorem dL_key_8 : decode cL_key 8 = .ok (.i2l, 1) := by decide +kernel
theorem dL_key_9 : decode cL_key 9 = .ok (.lastore, 1) := by decide +kernel
theorem dL_key_10 : decode cL_key 10 = .ok (.goto 11, 3) := by decide +kernel
theorem dL_key_13 : decode cL_key 13 = .ok (.astore 4, 2) := by decide +kernel
theorem dL_key_15 : decode cL_key 15 = .ok (.iconst 1, 1) := by decide +kernel
theorem dL_key_16 : decode cL_key 16 = .ok (.ireturn, 1) := by decide +kernel
theorem dL_key_17 : decode cL_key 17 = .ok (.astore 4, 2) := by decide +kernel
theorem dL_key_19 : decode cL_key 19 = .ok (.iconst 2, 1) := by decide +kernel
theorem dL_key_20 : decode cL_key 20 = .ok (.ireturn, 1) := by decide +kernel
theorem dL_key_21 : decode cL_key 21 = .ok (.iconst 0, 1) := by decide +kernel
theorem dL_key_22 : decode cL_key 22 = .ok (.ireturn, 1) := by decide +kernel
theorem dL_conference_0 : decode cL_conference 0 = .ok (.aload 5, 2) := by decide +kernel
theorem dL_conference_2 : decode cL_conference 2 = .ok (.iconst 0, 1) := by decide +kernel
theorem dL_conference_3 : decode cL_conference 3 = .ok (.aload_n 0, 1) := by decide +kernel
theorem dL_conference_4 : decode cL_conference 4 = .ok (.iload_n 1, 1) := by decide +kernel
theorem dL_conference_5 : decode cL_conference 5 = .ok (.iload_n 2, 1) := by decide +kernel
theorem dL_conference_6 : decode cL_conference 6 = .ok (.iload_n 3, 1) := by decide +kernel
theorem dL_conference_7 : decode cL_conference 7 = .ok (.iload 4, 2) := by decide +kernel
theorem dL_conference_9 : decode cL_conference 9 = .ok (.invokevirtual 49, 3) := by decide +kernel
theorem dL_conference_12 : decode cL_conference 12 = .ok (.i2l, 1) := by decide +kernel
theorem dL_conference_13 : decode cL_conference 13 = .ok (.lastore, 1) := by decide +kernel
theorem dL_conference_14 : decode cL_conference 14 = .ok (.goto 11, 3) := by decide +kernel
theorem dL_conference_17 : decode cL_conference 17 = .ok (.astore 6, 2) := by decide +kernel
theorem dL_conference_19 : decode cL_conference 19 = .ok (.iconst 1, 1) := by decide +kernel
theorem dL_conference_20 : decode cL_conference 20 = .ok (.ireturn, 1) := by decide +kernel
theorem dL_conference_21 : decode cL_conference 21 = .ok (.astore 6, 2) := by decide +kernel
theorem dL_conference_23 : decode cL_conference 23 = .ok (.iconst 2, 1) := by decide +kernel
theorem dL_conference_24 : decode cL_conference 24 = .ok (.ireturn, 1) := by decide +kernel
theorem dL_conference_25 : decode cL_conference 25 = .ok (.iconst 0, 1) := by decide +kernel
theorem dL_conference_26 : decode cL_conference 26 = .ok (.ireturn, 1) := by decide +kernel
theorem dL_reserve_0 : decode cL_reserve 0 = .ok (.aload_n 3, 1) := by decide +kernel
theorem dL_reserve_1 : decode cL_reserve 1 = .ok (.iconst 0, 1) := by decide +kernel
theorem dL_reserve_2 : decode cL_reserve 2 = .ok (.aload_n 0, 1) := by decide +kernel
theorem dL_reserve_3 : decode cL_reserve 3 = .ok (.iload_n 1, 1) := by decide +kernel
theorem dL_reserve_4 : decode cL_reserve 4 = .ok (.iload_n 2, 1) := by decide +kernel
theorem dL_reserve_5 : decode cL_reserve 5 = .ok (.invokevirtual 52, 3) := by decide +kernel
theorem dL_reserve_8 : decode cL_reserve 8 = .ok (.i2l, 1) := by decide +kernel
theorem dL_reserve_9 : decode cL_reserve 9 = .ok (.lastore, 1) := by decide +kernel
theorem dL_reserve_10 : decode cL_reserve 10 = .ok (.goto 7, 3) := by decide +kernel
theorem dL_reserve_13 : decode cL_reserve 13 = .ok (.astore 4, 2) := by decide +kernel
theorem dL_reserve_15 : decode cL_reserve 15 = .ok (.iconst 1, 1) := by decide +kernel
theorem dL_reserve_16 : decode cL_reserve 16 = .ok (.ireturn, 1) := by decide +kernel
theorem dL_reserve_17 : decode cL_reserve 17 = .ok (.iconst 0, 1) := by decide +kernel
theorem dL_reserve_18 : decode cL_reserve 18 = .ok (.ireturn, 1) := by decide +kernel
theorem dL_draft_0 : decode cL_draft 0 = .ok (.aload_n 2, 1) := by decide +kernel
theorem dL_draft_1 : decode cL_draft 1 = .ok (.iconst 0, 1) := by decide +kernel
theorem dL_draft_2 : decode cL_draft 2 = .ok (.aload_n 0, 1) := by decide +kernel
theorem dL_draft_3 : decode cL_draft 3 = .ok (.iload_n 1, 1) := by decide +kernel
theorem dL_draft_4 : decode cL_draft 4 = .ok (.invokevirtual 55, 3) := by decide +kernel
theorem dL_draft_7 : decode cL_draft 7 = .ok (.i2l, 1) := by decide +kernel
theorem dL_draft_8 : decode cL_draft 8 = .ok (.lastore, 1) := by decide +kernel
theorem dL_draft_9 : decode cL_draft 9 = .ok (.goto 9, 3) := by decide +kernel
theorem dL_draft_12 : decode cL_draft 12 = .ok (.astore_n 3, 1) := by decide +kernel
theorem dL_draft_13 : decode cL_draft 13 = .ok (.iconst 1, 1) := by decide +kernel
theorem dL_draft_14 : decode cL_draft 14 = .ok (.ireturn, 1) := by decide +kernel
theorem dL_draft_15 : decode cL_draft 15 = .ok (.astore_n 3, 1) := by decide +kernel
theorem dL_draft_16 : decode cL_draft 16 = .ok (.iconst 2, 1) := by decide +kernel
theorem dL_draft_17 : decode cL_draft 17 = .ok (.ireturn, 1) := by decide +kernel
theorem dL_draft_18 : decode cL_draft 18 = .ok (.iconst 0, 1) := by decide +kernel
theorem dL_draft_19 : decode cL_draft 19 = .ok (.ireturn, 1) := by decide +kernel
theorem dL_words_0 : decode cL_words 0 = .ok (.aload_n 3, 1) := by decide +kernel
theorem dL_words_1 : decode cL_words 1 = .ok (.iconst 0, 1) := by decide +kernel
theorem dL_words_2 : decode cL_words 2 = .ok (.aload_n 0, 1) := by decide +kernel
theorem dL_words_3 : decode cL_words 3 = .ok (.iload_n 1, 1) := by decide +kernel
theorem dL_words_4 : decode cL_words 4 = .ok (.iload_n 2, 1) := by decide +kernel
theorem dL_words_5 : decode cL_words 5 = .ok (.invokevirtual 58, 3) := by decide +kernel
theorem dL_words_8 : decode cL_words 8 = .ok (.i2l, 1) := by decide +kernel
theorem dL_words_9 : decode cL_words 9 = .ok (.lastore, 1) := by decide +kernel
theorem dL_words_10 : decode cL_words 10 = .ok (.goto 7, 3) := by decide +kernel
theorem dL_words_13 : decode cL_words 13 = .ok (.astore 4, 2) := by decide +kernel
theorem dL_words_15 : decode cL_words 15 = .ok (.iconst 1, 1) := by decide +kernel
theorem dL_words_16 : decode cL_words 16 = .ok (.ireturn, 1) := by decide +kernel
theorem dL_words_17 : decode cL_words 17 = .ok (.iconst 0, 1) := by decide +kernel
theorem dL_words_18 : decode cL_words 18 = .ok (.ireturn, 1) := by decide +kernel
theorem dL_send_0 : decode cL_send 0 = .ok (.aload 5, 2) := by decide +kernel
theorem dL_send_2 : decode cL_send 2 = .ok (.iconst 0, 1) := by decide +kernel
theorem dL_send_3 : decode cL_send 3 = .ok (.aload_n 0, 1) := by decide +kernel
theorem dL_send_4 : decode cL_send 4 = .ok (.iload_n 1, 1) := by decide +kernel
theorem dL_send_5 : decode cL_send 5 = .ok (.iload_n 2, 1) := by decide +kernel
theorem dL_send_6 : decode cL_send 6 = .ok (.iload_n 3, 1) := by decide +kernel
theorem dL_send_7 : decode cL_send 7 = .ok (.iload 4, 2) := by decide +kernel
theorem dL_send_9 : decode cL_send 9 = .ok (.invokevirtual 61, 3) := by decide +kernel
theorem dL_send_12 : decode cL_send 12 = .ok (.i2l, 1) := by decide +kernel
theorem dL_send_13 : decode cL_send 13 = .ok (.lastore, 1) := by decide +kernel
theorem dL_send_14 : decode cL_send 14 = .ok (.goto 15, 3) := by decide +kernel
theorem dL_send_17 : decode cL_send 17 = .ok (.astore 6, 2) := by decide +kernel
theorem dL_send_19 : decode cL_send 19 = .ok (.iconst 1, 1) := by decide +kernel
theorem dL_send_20 : decode cL_send 20 = .ok (.ireturn, 1) := by decide +kernel
theorem dL_send_21 : decode cL_send 21 = .ok (.astore 6, 2) := by decide +kernel
theorem dL_send_23 : decode cL_send 23 = .ok (.iconst 2, 1) := by decide +kernel
theorem dL_send_24 : decode cL_send 24 = .ok (.ireturn, 1) := by decide +kernel
theorem dL_send_25 : decode cL_send 25 = .ok (.astore 6, 2) := by decide +kernel
theorem dL_send_27 : decode cL_send 27 = .ok (.iconst 3, 1) := by decide +kernel
theorem dL_send_28 : decode cL_send 28 = .ok (.ireturn, 1) := by decide +kernel
theorem dL_send_29 : decode cL_send 29 = .ok (.iconst 0, 1) := by decide +kernel
theorem dL_send_30 : decode cL_send 30 = .ok (.ireturn, 1) := by decide +kernel
theorem dL_wrong_0 : decode cL_wrong 0 = .ok (.aload 5, 2) := by decide +kernel
theorem dL_wrong_2 : decode cL_wrong 2 = .ok (.iconst 0, 1) := by decide +kernel
theorem dL_wrong_3 : decode cL_wrong 3 = .ok (.aload_n 0, 1) := by decide +kernel
theorem dL_wrong_4 : decode cL_wrong 4 = .ok (.iload_n 1, 1) := by decide +kernel
theorem dL_wrong_5 : decode cL_wrong 5 = .ok (.iload_n 2, 1) := by decide +kernel
theorem dL_wrong_6 : decode cL_wrong 6 = .ok (.iload_n 3, 1) := by decide +kernel
theorem dL_wrong_7 : decode cL_wrong 7 = .ok (.iload 4, 2) := by decide +kernel
theorem dL_wrong_9 : decode cL_wrong 9 = .ok (.invokevirtual 65, 3) := by decide +kernel
theorem dL_wrong_12 : decode cL_wrong 12 = .ok (.i2l, 1) := by decide +kernel
theorem dL_wrong_13 : decode cL_wrong 13 = .ok (.lastore, 1) := by decide +kernel
theorem dL_wrong_14 : decode cL_wrong 14 = .ok (.goto 15, 3) := by decide +kernel
theorem dL_wrong_17 : decode cL_wrong 17 = .ok (.astore 6, 2) := by decide +kernel
theorem dL_wrong_19 : decode cL_wrong 19 = .ok (.iconst 1, 1) := by decide +kernel
theorem dL_wrong_20 : decode cL_wrong 20 = .ok (.ireturn, 1) := by decide +kernel
theorem dL_wrong_21 : decode cL_wrong 21 = .ok (.astore 6, 2) := by decide +kernel
theorem dL_wrong_23 : decode cL_wrong 23 = .ok (.iconst 2, 1) := by decide +kernel
theorem dL_wrong_24 : decode cL_wrong 24 = .ok (.ireturn, 1) := by decide +kernel
theorem dL_wrong_25 : decode cL_wrong 25 = .ok (.astore 6, 2) := by decide +kernel
theorem dL_wrong_27 : decode cL_wrong 27 = .ok (.iconst 3, 1) := by decide +kernel
theorem dL_wrong_28 : decode cL_wrong 28 = .ok (.ireturn, 1) := by decide +kernel
theorem dL_wrong_29 : decode cL_wrong 29 = .ok (.iconst 0, 1) := by decide +kernel
theorem dL_wrong_30 : decode cL_wrong 30 = .ok (.ireturn, 1) := by decide +kernel
theorem dL_pass_0 : decode cL_pass 0 = .ok (.aload_n 2, 1) := by decide +kernel
theorem dL_pass_1 : decode cL_pass 1 = .ok (.iconst 0, 1) := by decide +kernel
theorem dL_pass_2 : decode cL_pass 2 = .ok (.aload_n 0, 1) := by decide +kernel
theorem dL_pass_3 : decode cL_pass 3 = .ok (.iload_n 1, 1) := by decide +kernel
theorem dL_pass_4 : decode cL_pass 4 = .ok (.invokevirtual 68, 3) := by decide +kernel
theorem dL_pass_7 : decode cL_pass 7 = .ok (.i2l, 1) := by decide +kernel
theorem dL_pass_8 : decode cL_pass 8 = .ok (.lastore, 1) := by decide +kernel
theorem dL_pass_9 : decode cL_pass 9 = .ok (.goto 9, 3) := by decide +kernel
theorem dL_pass_12 : decode cL_pass 12 = .ok (.astore_n 3, 1) := by decide +kernel
theorem dL_pass_13 : decode cL_pass 13 = .ok (.iconst 1, 1) := by decide +kernel
theorem dL_pass_14 : decode cL_pass 14 = .ok (.ireturn, 1) := by decide +kernel
theorem dL_pass_15 : decode cL_pass 15 = .ok (.astore_n 3, 1) := by decide +kernel
theorem dL_pass_16 : decode cL_pass 16 = .ok (.iconst 2, 1) := by decide +kernel
theorem dL_pass_17 : decode cL_pass 17 = .ok (.ireturn, 1) := by decide +kernel
theorem dL_pass_18 : decode cL_pass 18 = .ok (.iconst 0, 1) := by decide +kernel
theorem dL_pass_19 : decode cL_pass 19 = .ok (.ireturn, 1) := by decide +kernel
theorem dL_rest_0 : decode cL_rest 0 = .ok (.aload_n 2, 1) := by decide +kernel
theorem dL_rest_1 : decode cL_rest 1 = .ok (.iconst 0, 1) := by decide +kernel
theorem dL_rest_2 : decode cL_rest 2 = .ok (.aload_n 0, 1) := by decide +kernel
theorem dL_rest_3 : decode cL_rest 3 = .ok (.iload_n 1, 1) := by decide +kernel
theorem dL_rest_4 : decode cL_rest 4 = .ok (.invokevirtual 71, 3) := by decide +kernel
theorem dL_rest_7 : decode cL_rest 7 = .ok (.i2l, 1) := by decide +kernel
theorem dL_rest_8 : decode cL_rest 8 = .ok (.lastore, 1) := by decide +kernel
theorem dL_rest_9 : decode cL_rest 9 = .ok (.goto 9, 3) := by decide +kernel
theorem dL_rest_12 : decode cL_rest 12 = .ok (.astore_n 3, 1) := by decide +kernel
theorem dL_rest_13 : decode cL_rest 13 = .ok (.iconst 1, 1) := by decide +kernel
theorem dL_rest_14 : decode cL_rest 14 = .ok (.ireturn, 1) := by decide +kernel
theorem dL_rest_15 : decode cL_rest 15 = .ok (.astore_n 3, 1) := by decide +kernel
theorem dL_rest_16 : decode cL_rest 16 = .ok (.iconst 2, 1) := by decide +kernel
theorem dL_rest_17 : decode cL_rest 17 = .ok (.ireturn, 1) := by decide +kernel
theorem dL_rest_18 : decode cL_rest 18 = .ok (.iconst 0, 1) := by decide +kernel
theorem dL_rest_19 : decode cL_rest 19 = .ok (.ireturn, 1) := by decide +kernel
theorem dL_ofMessage_0 : decode cL_ofMessage 0 = .ok (.aload_n 3, 1) := by decide +kernel
theorem dL_ofMessage_1 : decode cL_ofMessage 1 = .ok (.iconst 0, 1) := by decide +kernel
theorem dL_ofMessage_2 : decode cL_ofMessage 2 = .ok (.aload_n 0, 1) := by decide +kernel
theorem dL_ofMessage_3 : decode cL_ofMessage 3 = .ok (.iload_n 1, 1) := by decide +kernel
theorem dL_ofMessage_4 : decode cL_ofMessage 4 = .ok (.iload_n 2, 1) := by decide +kernel
theorem dL_ofMessage_5 : decode cL_ofMessage 5 = .ok (.invokevirtual 74, 3) := by decide +kernel
theorem dL_ofMessage_8 : decode cL_ofMessage 8 = .ok (.i2l, 1) := by decide +kernel
theorem dL_ofMessage_9 : decode cL_ofMessage 9 = .ok (.lastore, 1) := by decide +kernel
theorem dL_ofMessage_10 : decode cL_ofMessage 10 = .ok (.goto 11, 3) := by decide +kernel
theorem dL_ofMessage_13 : decode cL_ofMessage 13 = .ok (.astore 4, 2) := by decide +kernel
theorem dL_ofMessage_15 : decode cL_ofMessage 15 = .ok (.iconst 1, 1) := by decide +kernel
theorem dL_ofMessage_16 : decode cL_ofMessage 16 = .ok (.ireturn, 1) := by decide +kernel
theorem dL_ofMessage_17 : decode cL_ofMessage 17 = .ok (.astore 4, 2) := by decide +kernel
theorem dL_ofMessage_19 : decode cL_ofMessage 19 = .ok (.iconst 2, 1) := by decide +kernel
theorem dL_ofMessage_20 : decode cL_ofMessage 20 = .ok (.ireturn, 1) := by decide +kernel
theorem dL_ofMessage_21 : decode cL_ofMessage 21 = .ok (.iconst 0, 1) := by decide +kernel
theorem dL_ofMessage_22 : decode cL_ofMessage 22 = .ok (.ireturn, 1) := by decide +kernel
theorem dL_word_0 : decode cL_word 0 = .ok (.aload 4, 2) := by decide +kernel
theorem dL_word_2 : decode cL_word 2 = .ok (.iconst 0, 1) := by decide +kernel
theorem dL_word_3 : decode cL_word 3 = .ok (.aload_n 0, 1) := by decide +kernel
theorem dL_word_4 : decode cL_word 4 = .ok (.iload_n 1, 1) := by decide +kernel
theorem dL_word_5 : decode cL_word 5 = .ok (.iload_n 2, 1) := by decide +kernel
theorem dL_word_6 : decode cL_word 6 = .ok (.iload_n 3, 1) := by decide +kernel
theorem dL_word_7 : decode cL_word 7 = .ok (.invokevirtual 77, 3) := by decide +kernel
theorem dL_word_10 : decode cL_word 10 = .ok (.i2l, 1) := by decide +kernel
theorem dL_word_11 : decode cL_word 11 = .ok (.lastore, 1) := by decide +kernel
theorem dL_word_12 : decode cL_word 12 = .ok (.goto 7, 3) := by decide +kernel
theorem dL_word_15 : decode cL_word 15 = .ok (.astore 5, 2) := by decide +kernel
theorem dL_word_17 : decode cL_word 17 = .ok (.iconst 1, 1) := by decide +kernel
theorem dL_word_18 : decode cL_word 18 = .ok (.ireturn, 1) := by decide +kernel
theorem dL_word_19 : decode cL_word 19 = .ok (.iconst 0, 1) := by decide +kernel
theorem dL_word_20 : decode cL_word 20 = .ok (.ireturn, 1) := by decide +kernel
theorem dL_read_0 : decode cL_read 0 = .ok (.aload_n 3, 1) := by decide +kernel
theorem dL_read_1 : decode cL_read 1 = .ok (.iconst 0, 1) := by decide +kernel
theorem dL_read_2 : decode cL_read 2 = .ok (.aload_n 0, 1) := by decide +kernel
theorem dL_read_3 : decode cL_read 3 = .ok (.iload_n 1, 1) := by decide +kernel
theorem dL_read_4 : decode cL_read 4 = .ok (.iload_n 2, 1) := by decide +kernel
theorem dL_read_5 : decode cL_read 5 = .ok (.invokevirtual 81, 3) := by decide +kernel
theorem dL_read_8 : decode cL_read 8 = .ok (.i2l, 1) := by decide +kernel
theorem dL_read_9 : decode cL_read 9 = .ok (.lastore, 1) := by decide +kernel
theorem dL_read_10 : decode cL_read 10 = .ok (.goto 7, 3) := by decide +kernel
theorem dL_read_13 : decode cL_read 13 = .ok (.astore 4, 2) := by decide +kernel
theorem dL_read_15 : decode cL_read 15 = .ok (.iconst 1, 1) := by decide +kernel
theorem dL_read_16 : decode cL_read 16 = .ok (.ireturn, 1) := by decide +kernel
theorem dL_read_17 : decode cL_read 17 = .ok (.iconst 0, 1) := by decide +kernel
theorem dL_read_18 : decode cL_read 18 = .ok (.ireturn, 1) := by decide +kernel
theorem dL_claim_0 : decode cL_claim 0 = .ok (.aload_n 2, 1) := by decide +kernel
theorem dL_claim_1 : decode cL_claim 1 = .ok (.iconst 0, 1) := by decide +kernel
theorem dL_claim_2 : decode cL_claim 2 = .ok (.aload_n 0, 1) := by decide +kernel
theorem dL_claim_3 : decode cL_claim 3 = .ok (.iload_n 1, 1) := by decide +kernel
theorem dL_claim_4 : decode cL_claim 4 = .ok (.invokevirtual 84, 3) := by decide +kernel
theorem dL_claim_7 : decode cL_claim 7 = .ok (.i2l, 1) := by decide +kernel
theorem dL_claim_8 : decode cL_claim 8 = .ok (.lastore, 1) := by decide +kernel
theorem dL_claim_9 : decode cL_claim 9 = .ok (.goto 6, 3) := by decide +kernel
theorem dL_claim_12 : decode cL_claim 12 = .ok (.astore_n 3, 1) := by decide +kernel
theorem dL_claim_13 : decode cL_claim 13 = .ok (.iconst 1, 1) := by decide +kernel
theorem dL_claim_14 : decode cL_claim 14 = .ok (.ireturn, 1) := by decide +kernel
theorem dL_claim_15 : decode cL_claim 15 = .ok (.iconst 0, 1) := by decide +kernel
theorem dL_claim_16 : decode cL_claim 16 = .ok (.ireturn, 1) := by decide +kernel
theorem dL_account_0 : decode cL_account 0 = .ok (.aload_n 2, 1) := by decide +kernel
theorem dL_account_1 : decode cL_account 1 = .ok (.iconst 0, 1) := by decide +kernel
theorem dL_account_2 : decode cL_account 2 = .ok (.aload_n 0, 1) := by decide +kernel
theorem dL_account_3 : decode cL_account 3 = .ok (.iload_n 1, 1) := by decide +kernel
theorem dL_account_4 : decode cL_account 4 = .ok (.invokevirtual 87, 3) := by decide +kernel
theorem dL_account_7 : decode cL_account 7 = .ok (.i2l, 1) := by decide +kernel
theorem dL_account_8 : decode cL_account 8 = .ok (.lastore, 1) := by decide +kernel
theorem dL_account_9 : decode cL_account 9 = .ok (.goto 6, 3) := by decide +kernel
theorem dL_account_12 : decode cL_account 12 = .ok (.astore_n 3, 1) := by decide +kernel
theorem dL_account_13 : decode cL_account 13 = .ok (.iconst 1, 1) := by decide +kernel
theorem dL_account_14 : decode cL_account 14 = .ok (.ireturn, 1) := by decide +kernel
theorem dL_account_15 : decode cL_account 15 = .ok (.iconst 0, 1) := by decide +kernel
theorem dL_account_16 : decode cL_account 16 = .ok (.ireturn, 1) := by decide +kernel
theorem dL_accountAnew_0 : decode cL_accountAnew 0 = .ok (.aload_n 2, 1) := by decide +kernel
theorem dL_accountAnew_1 : decode cL_accountAnew 1 = .ok (.iconst 0, 1) := by decide +kernel
theorem dL_accountAnew_2 : decode cL_accountAnew 2 = .ok (.aload_n 0, 1) := by decide +kernel
theorem dL_accountAnew_3 : decode cL_accountAnew 3 = .ok (.iload_n 1, 1) := by decide +kernel
theorem dL_accountAnew_4 : decode cL_accountAnew 4 = .ok (.invokevirtual 90, 3) := by decide +kernel
theorem dL_accountAnew_7 : decode cL_accountAnew 7 = .ok (.i2l, 1) := by decide +kernel
theorem dL_accountAnew_8 : decode cL_accountAnew 8 = .ok (.lastore, 1) := by decide +kernel
theorem dL_accountAnew_9 : decode cL_accountAnew 9 = .ok (.goto 6, 3) := by decide +kernel
theorem dL_accountAnew_12 : decode cL_accountAnew 12 = .ok (.astore_n 3, 1) := by decide +kernel
theorem dL_accountAnew_13 : decode cL_accountAnew 13 = .ok (.iconst 1, 1) := by decide +kernel
theorem dL_accountAnew_14 : decode cL_accountAnew 14 = .ok (.ireturn, 1) := by decide +kernel
theorem dL_accountAnew_15 : decode cL_accountAnew 15 = .ok (.iconst 0, 1) := by decide +kernel
theorem dL_accountAnew_16 : decode cL_accountAnew 16 = .ok (.ireturn, 1) := by decide +kernel
theorem dL_law_0 : decode cL_law 0 = .ok (.new 8, 3) := by decide +kernel
theorem dL_law_3 : decode cL_law 3 = .ok (.dup, 1) := by decide +kernel
theorem dL_law_4 : decode cL_law 4 = .ok (.invokespecial 93, 3) := by decide +kernel
theorem dL_law_7 : decode cL_law 7 = .ok (.astore_n 1, 1) := by decide +kernel
theorem dL_law_8 : decode cL_law 8 = .ok (.new 94, 3) := by decide +kernel
theorem dL_law_11 : decode cL_law 11 = .ok (.dup, 1) := by decide +kernel
theorem dL_law_12 : decode cL_law 12 = .ok (.invokespecial 96, 3) := by decide +kernel
theorem dL_law_15 : decode cL_law 15 = .ok (.astore_n 2, 1) := by decide +kernel
theorem dL_law_16 : decode cL_law 16 = .ok (.iconst 1, 1) := by decide +kernel
theorem dL_law_17 : decode cL_law 17 = .ok (.newarray .long, 2) := by decide +kernel
theorem dL_law_19 : decode cL_law 19 = .ok (.astore_n 3, 1) := by decide +kernel
theorem dL_law_20 : decode cL_law 20 = .ok (.iconst 0, 1) := by decide +kernel
theorem dL_law_21 : decode cL_law 21 = .ok (.istore 4, 2) := by decide +kernel
theorem dL_law_23 : decode cL_law 23 = .ok (.iload 4, 2) := by decide +kernel
theorem dL_law_25 : decode cL_law 25 = .ok (.aload_n 0, 1) := by decide +kernel
theorem dL_law_26 : decode cL_law 26 = .ok (.arraylength, 1) := by decide +kernel
theorem dL_law_27 : decode cL_law 27 = .ok (.bipush 6, 2) := by decide +kernel
theorem dL_law_29 : decode cL_law 29 = .ok (.isub, 1) := by decide +kernel
theorem dL_law_30 : decode cL_law 30 = .ok (.if_icmp .gt 1799, 3) := by decide +kernel
theorem dL_law_33 : decode cL_law 33 = .ok (.aload_n 0, 1) := by decide +kernel
theorem dL_law_34 : decode cL_law 34 = .ok (.iload 4, 2) := by decide +kernel
theorem dL_law_36 : decode cL_law 36 = .ok (.iaload, 1) := by decide +kernel
theorem dL_law_37 : decode cL_law 37 = .ok (.bipush 31, 2) := by decide +kernel
theorem dL_law_39 : decode cL_law 39 = .ok (.iand, 1) := by decide +kernel
theorem dL_law_40 : decode cL_law 40 = .ok (.tableswitch 1783 0 22 #[108, 164, 268, 324, 392, 436, 528, 612, 703, 771, 863, 931, 987, 1071, 1179, 1271, 1327, 1383, 1451, 1547, 1615, 1671, 1727], 108) := by decide +kernel
theorem dL_law_148 : decode cL_law 148 = .ok (.aload_n 1, 1) := by decide +kernel
theorem dL_law_149 : decode cL_law 149 = .ok (.aload_n 0, 1) := by decide +kernel
theorem dL_law_150 : decode cL_law 150 = .ok (.iload 4, 2) := by decide +kernel
theorem dL_law_152 : decode cL_law 152 = .ok (.iconst 1, 1) := by decide +kernel
theorem dL_law_153 : decode cL_law 153 = .ok (.iadd, 1) := by decide +kernel
theorem dL_law_154 : decode cL_law 154 = .ok (.iaload, 1) := by decide +kernel
theorem dL_law_155 : decode cL_law 155 = .ok (.aload_n 3, 1) := by decide +kernel
theorem dL_law_156 : decode cL_law 156 = .ok (.invokestatic 97, 3) := by decide +kernel
theorem dL_law_159 : decode cL_law 159 = .ok (.istore 5, 2) := by decide +kernel
theorem dL_law_161 : decode cL_law 161 = .ok (.aload_n 2, 1) := by decide +kernel
theorem dL_law_162 : decode cL_law 162 = .ok (.aload_n 0, 1) := by decide +kernel
theorem dL_law_163 : decode cL_law 163 = .ok (.iload 4, 2) := by decide +kernel
theorem dL_law_165 : decode cL_law 165 = .ok (.iconst 1, 1) := by decide +kernel
theorem dL_law_166 : decode cL_law 166 = .ok (.iadd, 1) := by decide +kernel
theorem dL_law_167 : decode cL_law 167 = .ok (.iaload, 1) := by decide +kernel
theorem dL_law_168 : decode cL_law 168 = .ok (.invokevirtual 102, 3) := by decide +kernel
theorem dL_law_171 : decode cL_law 171 = .ok (.istore 6, 2) := by decide +kernel
theorem dL_law_173 : decode cL_law 173 = .ok (.aload_n 2, 1) := by decide +kernel
theorem dL_law_174 : decode cL_law 174 = .ok (.invokevirtual 103, 3) := by decide +kernel
theorem dL_law_177 : decode cL_law 177 = .ok (.iload 5, 2) := by decide +kernel
theorem dL_law_179 : decode cL_law 179 = .ok (.if_icmp .eq 5, 3) := by decide +kernel
theorem dL_law_182 : decode cL_law 182 = .ok (.iconst 0, 1) := by decide +kernel
theorem dL_law_183 : decode cL_law 183 = .ok (.ireturn, 1) := by decide +kernel
theorem dL_law_184 : decode cL_law 184 = .ok (.iload 5, 2) := by decide +kernel
theorem dL_law_186 : decode cL_law 186 = .ok (.ifCond .ne 15, 3) := by decide +kernel
theorem dL_law_189 : decode cL_law 189 = .ok (.aload_n 3, 1) := by decide +kernel
theorem dL_law_190 : decode cL_law 190 = .ok (.iconst 0, 1) := by decide +kernel
theorem dL_law_191 : decode cL_law 191 = .ok (.laload, 1) := by decide +kernel
theorem dL_law_192 : decode cL_law 192 = .ok (.iload 6, 2) := by decide +kernel
theorem dL_law_194 : decode cL_law 194 = .ok (.i2l, 1) := by decide +kernel
theorem dL_law_195 : decode cL_law 195 = .ok (.lcmp, 1) := by decide +kernel
theorem dL_law_196 : decode cL_law 196 = .ok (.ifCond .eq 5, 3) := by decide +kernel
theorem dL_law_199 : decode cL_law 199 = .ok (.iconst 0, 1) := by decide +kernel
theorem dL_law_200 : decode cL_law 200 = .ok (.ireturn, 1) := by decide +kernel
theorem dL_law_201 : decode cL_law 201 = .ok (.goto 1622, 3) := by decide +kernel
theorem dL_law_204 : decode cL_law 204 = .ok (.aload_n 1, 1) := by decide +kernel
theorem dL_law_205 : decode cL_law 205 = .ok (.aload_n 0, 1) := by decide +kernel
theorem dL_law_206 : decode cL_law 206 = .ok (.iload 4, 2) := by decide +kernel
theorem dL_law_208 : decode cL_law 208 = .ok (.iconst 1, 1) := by decide +kernel
theorem dL_law_209 : decode cL_law 209 = .ok (.iadd, 1) := by decide +kernel
theorem dL_law_210 : decode cL_law 210 = .ok (.iaload, 1) := by decide +kernel
theorem dL_law_211 : decode cL_law 211 = .ok (.aload_n 0, 1) := by decide +kernel
theorem dL_law_212 : decode cL_law 212 = .ok (.iload 4, 2) := by decide +kernel
theorem dL_law_214 : decode cL_law 214 = .ok (.iconst 2, 1) := by decide +kernel
theorem dL_law_215 : decode cL_law 215 = .ok (.iadd, 1) := by decide +kernel
theorem dL_law_216 : decode cL_law 216 = .ok (.iaload, 1) := by decide +kernel
theorem dL_law_217 : decode cL_law 217 = .ok (.aload_n 0, 1) := by decide +kernel
theorem dL_law_218 : decode cL_law 218 = .ok (.iload 4, 2) := by decide +kernel
theorem dL_law_220 : decode cL_law 220 = .ok (.iconst 3, 1) := by decide +kernel
theorem dL_law_221 : decode cL_law 221 = .ok (.iadd, 1) := by decide +kernel
theorem dL_law_222 : decode cL_law 222 = .ok (.iaload, 1) := by decide +kernel
theorem dL_law_223 : decode cL_law 223 = .ok (.aload_n 0, 1) := by decide +kernel
theorem dL_law_224 : decode cL_law 224 = .ok (.iload 4, 2) := by decide +kernel
theorem dL_law_226 : decode cL_law 226 = .ok (.iconst 4, 1) := by decide +kernel
theorem dL_law_227 : decode cL_law 227 = .ok (.iadd, 1) := by decide +kernel
theorem dL_law_228 : decode cL_law 228 = .ok (.iaload, 1) := by decide +kernel
theorem dL_law_229 : decode cL_law 229 = .ok (.aload_n 0, 1) := by decide +kernel
theorem dL_law_230 : decode cL_law 230 = .ok (.iload 4, 2) := by decide +kernel
theorem dL_law_232 : decode cL_law 232 = .ok (.iconst 5, 1) := by decide +kernel
theorem dL_law_233 : decode cL_law 233 = .ok (.iadd, 1) := by decide +kernel
theorem dL_law_234 : decode cL_law 234 = .ok (.iaload, 1) := by decide +kernel
theorem dL_law_235 : decode cL_law 235 = .ok (.aload_n 3, 1) := by decide +kernel
theorem dL_law_236 : decode cL_law 236 = .ok (.invokestatic 106, 3) := by decide +kernel
theorem dL_law_239 : decode cL_law 239 = .ok (.istore 5, 2) := by decide +kernel
theorem dL_law_241 : decode cL_law 241 = .ok (.aload_n 2, 1) := by decide +kernel
theorem dL_law_242 : decode cL_law 242 = .ok (.aload_n 0, 1) := by decide +kernel
theorem dL_law_243 : decode cL_law 243 = .ok (.iload 4, 2) := by decide +kernel
theorem dL_law_245 : decode cL_law 245 = .ok (.iconst 1, 1) := by decide +kernel
theorem dL_law_246 : decode cL_law 246 = .ok (.iadd, 1) := by decide +kernel
theorem dL_law_247 : decode cL_law 247 = .ok (.iaload, 1) := by decide +kernel
theorem dL_law_248 : decode cL_law 248 = .ok (.aload_n 0, 1) := by decide +kernel
theorem dL_law_249 : decode cL_law 249 = .ok (.iload 4, 2) := by decide +kernel
theorem dL_law_251 : decode cL_law 251 = .ok (.iconst 2, 1) := by decide +kernel
theorem dL_law_252 : decode cL_law 252 = .ok (.iadd, 1) := by decide +kernel
theorem dL_law_253 : decode cL_law 253 = .ok (.iaload, 1) := by decide +kernel
theorem dL_law_254 : decode cL_law 254 = .ok (.aload_n 0, 1) := by decide +kernel
theorem dL_law_255 : decode cL_law 255 = .ok (.iload 4, 2) := by decide +kernel
theorem dL_law_257 : decode cL_law 257 = .ok (.iconst 3, 1) := by decide +kernel
theorem dL_law_258 : decode cL_law 258 = .ok (.iadd, 1) := by decide +kernel
theorem dL_law_259 : decode cL_law 259 = .ok (.iaload, 1) := by decide +kernel
theorem dL_law_260 : decode cL_law 260 = .ok (.aload_n 0, 1) := by decide +kernel
theorem dL_law_261 : decode cL_law 261 = .ok (.iload 4, 2) := by decide +kernel
theorem dL_law_263 : decode cL_law 263 = .ok (.iconst 4, 1) := by decide +kernel
theorem dL_law_264 : decode cL_law 264 = .ok (.iadd, 1) := by decide +kernel
theorem dL_law_265 : decode cL_law 265 = .ok (.iaload, 1) := by decide +kernel
theorem dL_law_266 : decode cL_law 266 = .ok (.aload_n 0, 1) := by decide +kernel
theorem dL_law_267 : decode cL_law 267 = .ok (.iload 4, 2) := by decide +kernel
theorem dL_law_269 : decode cL_law 269 = .ok (.iconst 5, 1) := by decide +kernel
theorem dL_law_270 : decode cL_law 270 = .ok (.iadd, 1) := by decide +kernel
theorem dL_law_271 : decode cL_law 271 = .ok (.iaload, 1) := by decide +kernel
theorem dL_law_272 : decode cL_law 272 = .ok (.invokevirtual 109, 3) := by decide +kernel
theorem dL_law_275 : decode cL_law 275 = .ok (.istore 6, 2) := by decide +kernel
theorem dL_law_277 : decode cL_law 277 = .ok (.aload_n 2, 1) := by decide +kernel
theorem dL_law_278 : decode cL_law 278 = .ok (.invokevirtual 103, 3) := by decide +kernel
theorem dL_law_281 : decode cL_law 281 = .ok (.iload 5, 2) := by decide +kernel
theorem dL_law_283 : decode cL_law 283 = .ok (.if_icmp .eq 5, 3) := by decide +kernel
theorem dL_law_286 : decode cL_law 286 = .ok (.iconst 0, 1) := by decide +kernel
theorem dL_law_287 : decode cL_law 287 = .ok (.ireturn, 1) := by decide +kernel
theorem dL_law_288 : decode cL_law 288 = .ok (.iload 5, 2) := by decide +kernel
theorem dL_law_290 : decode cL_law 290 = .ok (.ifCond .ne 15, 3) := by decide +kernel
theorem dL_law_293 : decode cL_law 293 = .ok (.aload_n 3, 1) := by decide +kernel
theorem dL_law_294 : decode cL_law 294 = .ok (.iconst 0, 1) := by decide +kernel
theorem dL_law_295 : decode cL_law 295 = .ok (.laload, 1) := by decide +kernel
theorem dL_law_296 : decode cL_law 296 = .ok (.iload 6, 2) := by decide +kernel
theorem dL_law_298 : decode cL_law 298 = .ok (.i2l, 1) := by decide +kernel
theorem dL_law_299 : decode cL_law 299 = .ok (.lcmp, 1) := by decide +kernel
theorem dL_law_300 : decode cL_law 300 = .ok (.ifCond .eq 5, 3) := by decide +kernel
theorem dL_law_303 : decode cL_law 303 = .ok (.iconst 0, 1) := by decide +kernel
theorem dL_law_304 : decode cL_law 304 = .ok (.ireturn, 1) := by decide +kernel
theorem dL_law_305 : decode cL_law 305 = .ok (.goto 1518, 3) := by decide +kernel
theorem dL_law_308 : decode cL_law 308 = .ok (.aload_n 1, 1) := by decide +kernel
theorem dL_law_309 : decode cL_law 309 = .ok (.aload_n 0, 1) := by decide +kernel
theorem dL_law_310 : decode cL_law 310 = .ok (.iload 4, 2) := by decide +kernel
theorem dL_law_312 : decode cL_law 312 = .ok (.iconst 1, 1) := by decide +kernel
theorem dL_law_313 : decode cL_law 313 = .ok (.iadd, 1) := by decide +kernel
theorem dL_law_314 : decode cL_law 314 = .ok (.iaload, 1) := by decide +kernel
theorem dL_law_315 : decode cL_law 315 = .ok (.aload_n 3, 1) := by decide +kernel
theorem dL_law_316 : decode cL_law 316 = .ok (.invokestatic 110, 3) := by decide +kernel
theorem dL_law_319 : decode cL_law 319 = .ok (.istore 5, 2) := by decide +kernel
theorem dL_law_321 : decode cL_law 321 = .ok (.aload_n 2, 1) := by decide +kernel
theorem dL_law_322 : decode cL_law 322 = .ok (.aload_n 0, 1) := by decide +kernel
theorem dL_law_323 : decode cL_law 323 = .ok (.iload 4, 2) := by decide +kernel
theorem dL_law_325 : decode cL_law 325 = .ok (.iconst 1, 1) := by decide +kernel
theorem dL_law_326 : decode cL_law 326 = .ok (.iadd, 1) := by decide +kernel
theorem dL_law_327 : decode cL_law 327 = .ok (.iaload, 1) := by decide +kernel
theorem dL_law_328 : decode cL_law 328 = .ok (.invokevirtual 112, 3) := by decide +kernel
theorem dL_law_331 : decode cL_law 331 = .ok (.istore 6, 2) := by decide +kernel
theorem dL_law_333 : decode cL_law 333 = .ok (.aload_n 2, 1) := by decide +kernel
theorem dL_law_334 : decode cL_law 334 = .ok (.invokevirtual 103, 3) := by decide +kernel
theorem dL_law_337 : decode cL_law 337 = .ok (.iload 5, 2) := by decide +kernel
theorem dL_law_339 : decode cL_law 339 = .ok (.if_icmp .eq 5, 3) := by decide +kernel
theorem dL_law_342 : decode cL_law 342 = .ok (.iconst 0, 1) := by decide +kernel
theorem dL_law_343 : decode cL_law 343 = .ok (.ireturn, 1) := by decide +kernel
theorem dL_law_344 : decode cL_law 344 = .ok (.iload 5, 2) := by decide +kernel
theorem dL_law_346 : decode cL_law 346 = .ok (.ifCond .ne 15, 3) := by decide +kernel
theorem dL_law_349 : decode cL_law 349 = .ok (.aload_n 3, 1) := by decide +kernel
theorem dL_law_350 : decode cL_law 350 = .ok (.iconst 0, 1) := by decide +kernel
theorem dL_law_351 : decode cL_law 351 = .ok (.laload, 1) := by decide +kernel
theorem dL_law_352 : decode cL_law 352 = .ok (.iload 6, 2) := by decide +kernel
theorem dL_law_354 : decode cL_law 354 = .ok (.i2l, 1) := by decide +kernel
theorem dL_law_355 : decode cL_law 355 = .ok (.lcmp, 1) := by decide +kernel
theorem dL_law_356 : decode cL_law 356 = .ok (.ifCond .eq 5, 3) := by decide +kernel
theorem dL_law_359 : decode cL_law 359 = .ok (.iconst 0, 1) := by decide +kernel
theorem dL_law_360 : decode cL_law 360 = .ok (.ireturn, 1) := by decide +kernel
theorem dL_law_361 : decode cL_law 361 = .ok (.goto 1462, 3) := by decide +kernel
theorem dL_law_364 : decode cL_law 364 = .ok (.aload_n 1, 1) := by decide +kernel
theorem dL_law_365 : decode cL_law 365 = .ok (.aload_n 0, 1) := by decide +kernel
theorem dL_law_366 : decode cL_law 366 = .ok (.iload 4, 2) := by decide +kernel
theorem dL_law_368 : decode cL_law 368 = .ok (.iconst 1, 1) := by decide +kernel
theorem dL_law_369 : decode cL_law 369 = .ok (.iadd, 1) := by decide +kernel
theorem dL_law_370 : decode cL_law 370 = .ok (.iaload, 1) := by decide +kernel
theorem dL_law_371 : decode cL_law 371 = .ok (.aload_n 0, 1) := by decide +kernel
theorem dL_law_372 : decode cL_law 372 = .ok (.iload 4, 2) := by decide +kernel
theorem dL_law_374 : decode cL_law 374 = .ok (.iconst 2, 1) := by decide +kernel
theorem dL_law_375 : decode cL_law 375 = .ok (.iadd, 1) := by decide +kernel
theorem dL_law_376 : decode cL_law 376 = .ok (.iaload, 1) := by decide +kernel
theorem dL_law_377 : decode cL_law 377 = .ok (.aload_n 3, 1) := by decide +kernel
theorem dL_law_378 : decode cL_law 378 = .ok (.invokestatic 113, 3) := by decide +kernel
theorem dL_law_381 : decode cL_law 381 = .ok (.istore 5, 2) := by decide +kernel
theorem dL_law_383 : decode cL_law 383 = .ok (.aload_n 2, 1) := by decide +kernel
theorem dL_law_384 : decode cL_law 384 = .ok (.aload_n 0, 1) := by decide +kernel
theorem dL_law_385 : decode cL_law 385 = .ok (.iload 4, 2) := by decide +kernel
theorem dL_law_387 : decode cL_law 387 = .ok (.iconst 1, 1) := by decide +kernel
theorem dL_law_388 : decode cL_law 388 = .ok (.iadd, 1) := by decide +kernel
theorem dL_law_389 : decode cL_law 389 = .ok (.iaload, 1) := by decide +kernel
theorem dL_law_390 : decode cL_law 390 = .ok (.aload_n 0, 1) := by decide +kernel
theorem dL_law_391 : decode cL_law 391 = .ok (.iload 4, 2) := by decide +kernel
theorem dL_law_393 : decode cL_law 393 = .ok (.iconst 2, 1) := by decide +kernel
theorem dL_law_394 : decode cL_law 394 = .ok (.iadd, 1) := by decide +kernel
theorem dL_law_395 : decode cL_law 395 = .ok (.iaload, 1) := by decide +kernel
theorem dL_law_396 : decode cL_law 396 = .ok (.invokevirtual 116, 3) := by decide +kernel
theorem dL_law_399 : decode cL_law 399 = .ok (.istore 6, 2) := by decide +kernel
theorem dL_law_401 : decode cL_law 401 = .ok (.aload_n 2, 1) := by decide +kernel
theorem dL_law_402 : decode cL_law 402 = .ok (.invokevirtual 103, 3) := by decide +kernel
theorem dL_law_405 : decode cL_law 405 = .ok (.iload 5, 2) := by decide +kernel
theorem dL_law_407 : decode cL_law 407 = .ok (.if_icmp .eq 5, 3) := by decide +kernel
theorem dL_law_410 : decode cL_law 410 = .ok (.iconst 0, 1) := by decide +kernel
theorem dL_law_411 : decode cL_law 411 = .ok (.ireturn, 1) := by decide +kernel
theorem dL_law_412 : decode cL_law 412 = .ok (.iload 5, 2) := by decide +kernel
theorem dL_law_414 : decode cL_law 414 = .ok (.ifCond .ne 15, 3) := by decide +kernel
theorem dL_law_417 : decode cL_law 417 = .ok (.aload_n 3, 1) := by decide +kernel
theorem dL_law_418 : decode cL_law 418 = .ok (.iconst 0, 1) := by decide +kernel
theorem dL_law_419 : decode cL_law 419 = .ok (.laload, 1) := by decide +kernel
theorem dL_law_420 : decode cL_law 420 = .ok (.iload 6, 2) := by decide +kernel
theorem dL_law_422 : decode cL_law 422 = .ok (.i2l, 1) := by decide +kernel
theorem dL_law_423 : decode cL_law 423 = .ok (.lcmp, 1) := by decide +kernel
theorem dL_law_424 : decode cL_law 424 = .ok (.ifCond .eq 5, 3) := by decide +kernel
theorem dL_law_427 : decode cL_law 427 = .ok (.iconst 0, 1) := by decide +kernel
theorem dL_law_428 : decode cL_law 428 = .ok (.ireturn, 1) := by decide +kernel
theorem dL_law_429 : decode cL_law 429 = .ok (.goto 1394, 3) := by decide +kernel
theorem dL_law_432 : decode cL_law 432 = .ok (.aload_n 1, 1) := by decide +kernel
theorem dL_law_433 : decode cL_law 433 = .ok (.aload_n 3, 1) := by decide +kernel
theorem dL_law_434 : decode cL_law 434 = .ok (.invokestatic 117, 3) := by decide +kernel
theorem dL_law_437 : decode cL_law 437 = .ok (.istore 5, 2) := by decide +kernel
theorem dL_law_439 : decode cL_law 439 = .ok (.aload_n 2, 1) := by decide +kernel
theorem dL_law_440 : decode cL_law 440 = .ok (.invokevirtual 120, 3) := by decide +kernel
theorem dL_law_443 : decode cL_law 443 = .ok (.istore 6, 2) := by decide +kernel
theorem dL_law_445 : decode cL_law 445 = .ok (.aload_n 2, 1) := by decide +kernel
theorem dL_law_446 : decode cL_law 446 = .ok (.invokevirtual 103, 3) := by decide +kernel
theorem dL_law_449 : decode cL_law 449 = .ok (.iload 5, 2) := by decide +kernel
theorem dL_law_451 : decode cL_law 451 = .ok (.if_icmp .eq 5, 3) := by decide +kernel
theorem dL_law_454 : decode cL_law 454 = .ok (.iconst 0, 1) := by decide +kernel
theorem dL_law_455 : decode cL_law 455 = .ok (.ireturn, 1) := by decide +kernel
theorem dL_law_456 : decode cL_law 456 = .ok (.iload 5, 2) := by decide +kernel
theorem dL_law_458 : decode cL_law 458 = .ok (.ifCond .ne 15, 3) := by decide +kernel
theorem dL_law_461 : decode cL_law 461 = .ok (.aload_n 3, 1) := by decide +kernel
theorem dL_law_462 : decode cL_law 462 = .ok (.iconst 0, 1) := by decide +kernel
theorem dL_law_463 : decode cL_law 463 = .ok (.laload, 1) := by decide +kernel
theorem dL_law_464 : decode cL_law 464 = .ok (.iload 6, 2) := by decide +kernel
theorem dL_law_466 : decode cL_law 466 = .ok (.i2l, 1) := by decide +kernel
theorem dL_law_467 : decode cL_law 467 = .ok (.lcmp, 1) := by decide +kernel
theorem dL_law_468 : decode cL_law 468 = .ok (.ifCond .eq 5, 3) := by decide +kernel
theorem dL_law_471 : decode cL_law 471 = .ok (.iconst 0, 1) := by decide +kernel
theorem dL_law_472 : decode cL_law 472 = .ok (.ireturn, 1) := by decide +kernel
theorem dL_law_473 : decode cL_law 473 = .ok (.goto 1350, 3) := by decide +kernel
theorem dL_law_476 : decode cL_law 476 = .ok (.aload_n 1, 1) := by decide +kernel
theorem dL_law_477 : decode cL_law 477 = .ok (.aload_n 0, 1) := by decide +kernel
theorem dL_law_478 : decode cL_law 478 = .ok (.iload 4, 2) := by decide +kernel
theorem dL_law_480 : decode cL_law 480 = .ok (.iconst 1, 1) := by decide +kernel
theorem dL_law_481 : decode cL_law 481 = .ok (.iadd, 1) := by decide +kernel
theorem dL_law_482 : decode cL_law 482 = .ok (.iaload, 1) := by decide +kernel
theorem dL_law_483 : decode cL_law 483 = .ok (.aload_n 0, 1) := by decide +kernel
theorem dL_law_484 : decode cL_law 484 = .ok (.iload 4, 2) := by decide +kernel
theorem dL_law_486 : decode cL_law 486 = .ok (.iconst 2, 1) := by decide +kernel
theorem dL_law_487 : decode cL_law 487 = .ok (.iadd, 1) := by decide +kernel
theorem dL_law_488 : decode cL_law 488 = .ok (.iaload, 1) := by decide +kernel
theorem dL_law_489 : decode cL_law 489 = .ok (.aload_n 0, 1) := by decide +kernel
theorem dL_law_490 : decode cL_law 490 = .ok (.iload 4, 2) := by decide +kernel
theorem dL_law_492 : decode cL_law 492 = .ok (.iconst 3, 1) := by decide +kernel
theorem dL_law_493 : decode cL_law 493 = .ok (.iadd, 1) := by decide +kernel
theorem dL_law_494 : decode cL_law 494 = .ok (.iaload, 1) := by decide +kernel
theorem dL_law_495 : decode cL_law 495 = .ok (.aload_n 0, 1) := by decide +kernel
theorem dL_law_496 : decode cL_law 496 = .ok (.iload 4, 2) := by decide +kernel
theorem dL_law_498 : decode cL_law 498 = .ok (.iconst 4, 1) := by decide +kernel
theorem dL_law_499 : decode cL_law 499 = .ok (.iadd, 1) := by decide +kernel
theorem dL_law_500 : decode cL_law 500 = .ok (.iaload, 1) := by decide +kernel
theorem dL_law_501 : decode cL_law 501 = .ok (.aload_n 3, 1) := by decide +kernel
theorem dL_law_502 : decode cL_law 502 = .ok (.invokestatic 121, 3) := by decide +kernel
theorem dL_law_505 : decode cL_law 505 = .ok (.istore 5, 2) := by decide +kernel
theorem dL_law_507 : decode cL_law 507 = .ok (.aload_n 2, 1) := by decide +kernel
theorem dL_law_508 : decode cL_law 508 = .ok (.aload_n 0, 1) := by decide +kernel
theorem dL_law_509 : decode cL_law 509 = .ok (.iload 4, 2) := by decide +kernel
theorem dL_law_511 : decode cL_law 511 = .ok (.iconst 1, 1) := by decide +kernel
theorem dL_law_512 : decode cL_law 512 = .ok (.iadd, 1) := by decide +kernel
theorem dL_law_513 : decode cL_law 513 = .ok (.iaload, 1) := by decide +kernel
theorem dL_law_514 : decode cL_law 514 = .ok (.aload_n 0, 1) := by decide +kernel
theorem dL_law_515 : decode cL_law 515 = .ok (.iload 4, 2) := by decide +kernel
theorem dL_law_517 : decode cL_law 517 = .ok (.iconst 2, 1) := by decide +kernel
theorem dL_law_518 : decode cL_law 518 = .ok (.iadd, 1) := by decide +kernel
theorem dL_law_519 : decode cL_law 519 = .ok (.iaload, 1) := by decide +kernel
theorem dL_law_520 : decode cL_law 520 = .ok (.aload_n 0, 1) := by decide +kernel
theorem dL_law_521 : decode cL_law 521 = .ok (.iload 4, 2) := by decide +kernel
theorem dL_law_523 : decode cL_law 523 = .ok (.iconst 3, 1) := by decide +kernel
theorem dL_law_524 : decode cL_law 524 = .ok (.iadd, 1) := by decide +kernel
theorem dL_law_525 : decode cL_law 525 = .ok (.iaload, 1) := by decide +kernel
theorem dL_law_526 : decode cL_law 526 = .ok (.aload_n 0, 1) := by decide +kernel
theorem dL_law_527 : decode cL_law 527 = .ok (.iload 4, 2) := by decide +kernel
theorem dL_law_529 : decode cL_law 529 = .ok (.iconst 4, 1) := by decide +kernel
theorem dL_law_530 : decode cL_law 530 = .ok (.iadd, 1) := by decide +kernel
theorem dL_law_531 : decode cL_law 531 = .ok (.iaload, 1) := by decide +kernel
theorem dL_law_532 : decode cL_law 532 = .ok (.invokevirtual 124, 3) := by decide +kernel
theorem dL_law_535 : decode cL_law 535 = .ok (.istore 6, 2) := by decide +kernel
theorem dL_law_537 : decode cL_law 537 = .ok (.aload_n 2, 1) := by decide +kernel
theorem dL_law_538 : decode cL_law 538 = .ok (.invokevirtual 103, 3) := by decide +kernel
theorem dL_law_541 : decode cL_law 541 = .ok (.iload 5, 2) := by decide +kernel
theorem dL_law_543 : decode cL_law 543 = .ok (.if_icmp .eq 5, 3) := by decide +kernel
theorem dL_law_546 : decode cL_law 546 = .ok (.iconst 0, 1) := by decide +kernel
theorem dL_law_547 : decode cL_law 547 = .ok (.ireturn, 1) := by decide +kernel
theorem dL_law_548 : decode cL_law 548 = .ok (.iload 5, 2) := by decide +kernel
theorem dL_law_550 : decode cL_law 550 = .ok (.ifCond .ne 15, 3) := by decide +kernel
theorem dL_law_553 : decode cL_law 553 = .ok (.aload_n 3, 1) := by decide +kernel
theorem dL_law_554 : decode cL_law 554 = .ok (.iconst 0, 1) := by decide +kernel
theorem dL_law_555 : decode cL_law 555 = .ok (.laload, 1) := by decide +kernel
theorem dL_law_556 : decode cL_law 556 = .ok (.iload 6, 2) := by decide +kernel
theorem dL_law_558 : decode cL_law 558 = .ok (.i2l, 1) := by decide +kernel
theorem dL_law_559 : decode cL_law 559 = .ok (.lcmp, 1) := by decide +kernel
theorem dL_law_560 : decode cL_law 560 = .ok (.ifCond .eq 5, 3) := by decide +kernel
theorem dL_law_563 : decode cL_law 563 = .ok (.iconst 0, 1) := by decide +kernel
theorem dL_law_564 : decode cL_law 564 = .ok (.ireturn, 1) := by decide +kernel
theorem dL_law_565 : decode cL_law 565 = .ok (.goto 1258, 3) := by decide +kernel
theorem dL_law_568 : decode cL_law 568 = .ok (.aload_n 1, 1) := by decide +kernel
theorem dL_law_569 : decode cL_law 569 = .ok (.aload_n 0, 1) := by decide +kernel
theorem dL_law_570 : decode cL_law 570 = .ok (.iload 4, 2) := by decide +kernel
theorem dL_law_572 : decode cL_law 572 = .ok (.iconst 1, 1) := by decide +kernel
theorem dL_law_573 : decode cL_law 573 = .ok (.iadd, 1) := by decide +kernel
theorem dL_law_574 : decode cL_law 574 = .ok (.iaload, 1) := by decide +kernel
theorem dL_law_575 : decode cL_law 575 = .ok (.aload_n 0, 1) := by decide +kernel
theorem dL_law_576 : decode cL_law 576 = .ok (.iload 4, 2) := by decide +kernel
theorem dL_law_578 : decode cL_law 578 = .ok (.iconst 2, 1) := by decide +kernel
theorem dL_law_579 : decode cL_law 579 = .ok (.iadd, 1) := by decide +kernel
theorem dL_law_580 : decode cL_law 580 = .ok (.iaload, 1) := by decide +kernel
theorem dL_law_581 : decode cL_law 581 = .ok (.ifCond .eq 7, 3) := by decide +kernel
theorem dL_law_584 : decode cL_law 584 = .ok (.iconst 1, 1) := by decide +kernel
theorem dL_law_585 : decode cL_law 585 = .ok (.goto 4, 3) := by decide +kernel
theorem dL_law_588 : decode cL_law 588 = .ok (.iconst 0, 1) := by decide +kernel
theorem dL_law_589 : decode cL_law 589 = .ok (.aload_n 3, 1) := by decide +kernel
theorem dL_law_590 : decode cL_law 590 = .ok (.invokestatic 125, 3) := by decide +kernel
theorem dL_law_593 : decode cL_law 593 = .ok (.istore 5, 2) := by decide +kernel
theorem dL_law_595 : decode cL_law 595 = .ok (.aload_n 2, 1) := by decide +kernel
theorem dL_law_596 : decode cL_law 596 = .ok (.aload_n 0, 1) := by decide +kernel
theorem dL_law_597 : decode cL_law 597 = .ok (.iload 4, 2) := by decide +kernel
theorem dL_law_599 : decode cL_law 599 = .ok (.iconst 1, 1) := by decide +kernel
theorem dL_law_600 : decode cL_law 600 = .ok (.iadd, 1) := by decide +kernel
theorem dL_law_601 : decode cL_law 601 = .ok (.iaload, 1) := by decide +kernel
theorem dL_law_602 : decode cL_law 602 = .ok (.aload_n 0, 1) := by decide +kernel
theorem dL_law_603 : decode cL_law 603 = .ok (.iload 4, 2) := by decide +kernel
theorem dL_law_605 : decode cL_law 605 = .ok (.iconst 2, 1) := by decide +kernel
theorem dL_law_606 : decode cL_law 606 = .ok (.iadd, 1) := by decide +kernel
theorem dL_law_607 : decode cL_law 607 = .ok (.iaload, 1) := by decide +kernel
theorem dL_law_608 : decode cL_law 608 = .ok (.ifCond .eq 7, 3) := by decide +kernel
theorem dL_law_611 : decode cL_law 611 = .ok (.iconst 1, 1) := by decide +kernel
theorem dL_law_612 : decode cL_law 612 = .ok (.goto 4, 3) := by decide +kernel
theorem dL_law_615 : decode cL_law 615 = .ok (.iconst 0, 1) := by decide +kernel
theorem dL_law_616 : decode cL_law 616 = .ok (.invokevirtual 128, 3) := by decide +kernel
theorem dL_law_619 : decode cL_law 619 = .ok (.istore 6, 2) := by decide +kernel
theorem dL_law_621 : decode cL_law 621 = .ok (.aload_n 2, 1) := by decide +kernel
theorem dL_law_622 : decode cL_law 622 = .ok (.invokevirtual 103, 3) := by decide +kernel
theorem dL_law_625 : decode cL_law 625 = .ok (.iload 5, 2) := by decide +kernel
theorem dL_law_627 : decode cL_law 627 = .ok (.if_icmp .eq 5, 3) := by decide +kernel
theorem dL_law_630 : decode cL_law 630 = .ok (.iconst 0, 1) := by decide +kernel
theorem dL_law_631 : decode cL_law 631 = .ok (.ireturn, 1) := by decide +kernel
theorem dL_law_632 : decode cL_law 632 = .ok (.iload 5, 2) := by decide +kernel
theorem dL_law_634 : decode cL_law 634 = .ok (.ifCond .ne 15, 3) := by decide +kernel
theorem dL_law_637 : decode cL_law 637 = .ok (.aload_n 3, 1) := by decide +kernel
theorem dL_law_638 : decode cL_law 638 = .ok (.iconst 0, 1) := by decide +kernel
theorem dL_law_639 : decode cL_law 639 = .ok (.laload, 1) := by decide +kernel
theorem dL_law_640 : decode cL_law 640 = .ok (.iload 6, 2) := by decide +kernel
theorem dL_law_642 : decode cL_law 642 = .ok (.i2l, 1) := by decide +kernel
theorem dL_law_643 : decode cL_law 643 = .ok (.lcmp, 1) := by decide +kernel
theorem dL_law_644 : decode cL_law 644 = .ok (.ifCond .eq 5, 3) := by decide +kernel
theorem dL_law_647 : decode cL_law 647 = .ok (.iconst 0, 1) := by decide +kernel
theorem dL_law_648 : decode cL_law 648 = .ok (.ireturn, 1) := by decide +kernel
theorem dL_law_649 : decode cL_law 649 = .ok (.goto 1174, 3) := by decide +kernel
theorem dL_law_652 : decode cL_law 652 = .ok (.aload_n 1, 1) := by decide +kernel
theorem dL_law_653 : decode cL_law 653 = .ok (.aload_n 0, 1) := by decide +kernel
theorem dL_law_654 : decode cL_law 654 = .ok (.iload 4, 2) := by decide +kernel
theorem dL_law_656 : decode cL_law 656 = .ok (.iconst 1, 1) := by decide +kernel
theorem dL_law_657 : decode cL_law 657 = .ok (.iadd, 1) := by decide +kernel
theorem dL_law_658 : decode cL_law 658 = .ok (.iaload, 1) := by decide +kernel
theorem dL_law_659 : decode cL_law 659 = .ok (.aload_n 0, 1) := by decide +kernel
theorem dL_law_660 : decode cL_law 660 = .ok (.iload 4, 2) := by decide +kernel
theorem dL_law_662 : decode cL_law 662 = .ok (.iconst 2, 1) := by decide +kernel
theorem dL_law_663 : decode cL_law 663 = .ok (.iadd, 1) := by decide +kernel
theorem dL_law_664 : decode cL_law 664 = .ok (.iaload, 1) := by decide +kernel
theorem dL_law_665 : decode cL_law 665 = .ok (.ifCond .eq 7, 3) := by decide +kernel
theorem dL_law_668 : decode cL_law 668 = .ok (.iconst 1, 1) := by decide +kernel
theorem dL_law_669 : decode cL_law 669 = .ok (.goto 4, 3) := by decide +kernel
theorem dL_law_672 : decode cL_law 672 = .ok (.iconst 0, 1) := by decide +kernel
theorem dL_law_673 : decode cL_law 673 = .ok (.aload_n 3, 1) := by decide +kernel
theorem dL_law_674 : decode cL_law 674 = .ok (.invokestatic 129, 3) := by decide +kernel
theorem dL_law_677 : decode cL_law 677 = .ok (.istore 5, 2) := by decide +kernel
theorem dL_law_679 : decode cL_law 679 = .ok (.aload_n 2, 1) := by decide +kernel
theorem dL_law_680 : decode cL_law 680 = .ok (.aload_n 0, 1) := by decide +kernel
theorem dL_law_681 : decode cL_law 681 = .ok (.iload 4, 2) := by decide +kernel
theorem dL_law_683 : decode cL_law 683 = .ok (.iconst 1, 1) := by decide +kernel
theorem dL_law_684 : decode cL_law 684 = .ok (.iadd, 1) := by decide +kernel
theorem dL_law_685 : decode cL_law 685 = .ok (.iaload, 1) := by decide +kernel
theorem dL_law_686 : decode cL_law 686 = .ok (.aload_n 0, 1) := by decide +kernel
theorem dL_law_687 : decode cL_law 687 = .ok (.iload 4, 2) := by decide +kernel
theorem dL_law_689 : decode cL_law 689 = .ok (.iconst 2, 1) := by decide +kernel
theorem dL_law_690 : decode cL_law 690 = .ok (.iadd, 1) := by decide +kernel
theorem dL_law_691 : decode cL_law 691 = .ok (.iaload, 1) := by decide +kernel
theorem dL_law_692 : decode cL_law 692 = .ok (.ifCond .eq 7, 3) := by decide +kernel
theorem dL_law_695 : decode cL_law 695 = .ok (.iconst 1, 1) := by decide +kernel
theorem dL_law_696 : decode cL_law 696 = .ok (.goto 4, 3) := by decide +kernel
theorem dL_law_699 : decode cL_law 699 = .ok (.iconst 0, 1) := by decide +kernel
theorem dL_law_700 : decode cL_law 700 = .ok (.invokevirtual 131, 3) := by decide +kernel
theorem dL_law_703 : decode cL_law 703 = .ok (.istore 6, 2) := by decide +kernel
theorem dL_law_705 : decode cL_law 705 = .ok (.aload_n 2, 1) := by decide +kernel
theorem dL_law_706 : decode cL_law 706 = .ok (.invokevirtual 103, 3) := by decide +kernel
theorem dL_law_709 : decode cL_law 709 = .ok (.iload 5, 2) := by decide +kernel
theorem dL_law_711 : decode cL_law 711 = .ok (.if_icmp .eq 5, 3) := by decide +kernel
theorem dL_law_714 : decode cL_law 714 = .ok (.iconst 0, 1) := by decide +kernel
theorem dL_law_715 : decode cL_law 715 = .ok (.ireturn, 1) := by decide +kernel
theorem dL_law_716 : decode cL_law 716 = .ok (.iload 5, 2) := by decide +kernel
theorem dL_law_718 : decode cL_law 718 = .ok (.ifCond .ne 22, 3) := by decide +kernel
theorem dL_law_721 : decode cL_law 721 = .ok (.aload_n 3, 1) := by decide +kernel
theorem dL_law_722 : decode cL_law 722 = .ok (.iconst 0, 1) := by decide +kernel
theorem dL_law_723 : decode cL_law 723 = .ok (.laload, 1) := by decide +kernel
theorem dL_law_724 : decode cL_law 724 = .ok (.iload 6, 2) := by decide +kernel
theorem dL_law_726 : decode cL_law 726 = .ok (.ifCond .eq 7, 3) := by decide +kernel
theorem dL_law_729 : decode cL_law 729 = .ok (.lconst 1, 1) := by decide +kernel
theorem dL_law_730 : decode cL_law 730 = .ok (.goto 4, 3) := by decide +kernel
theorem dL_law_733 : decode cL_law 733 = .ok (.lconst 0, 1) := by decide +kernel
theorem dL_law_734 : decode cL_law 734 = .ok (.lcmp, 1) := by decide +kernel
theorem dL_law_735 : decode cL_law 735 = .ok (.ifCond .eq 5, 3) := by decide +kernel
theorem dL_law_738 : decode cL_law 738 = .ok (.iconst 0, 1) := by decide +kernel
theorem dL_law_739 : decode cL_law 739 = .ok (.ireturn, 1) := by decide +kernel
theorem dL_law_740 : decode cL_law 740 = .ok (.goto 1083, 3) := by decide +kernel
theorem dL_law_743 : decode cL_law 743 = .ok (.aload_n 1, 1) := by decide +kernel
theorem dL_law_744 : decode cL_law 744 = .ok (.aload_n 0, 1) := by decide +kernel
theorem dL_law_745 : decode cL_law 745 = .ok (.iload 4, 2) := by decide +kernel
theorem dL_law_747 : decode cL_law 747 = .ok (.iconst 1, 1) := by decide +kernel
theorem dL_law_748 : decode cL_law 748 = .ok (.iadd, 1) := by decide +kernel
theorem dL_law_749 : decode cL_law 749 = .ok (.iaload, 1) := by decide +kernel
theorem dL_law_750 : decode cL_law 750 = .ok (.aload_n 0, 1) := by decide +kernel
theorem dL_law_751 : decode cL_law 751 = .ok (.iload 4, 2) := by decide +kernel
theorem dL_law_753 : decode cL_law 753 = .ok (.iconst 2, 1) := by decide +kernel
theorem dL_law_754 : decode cL_law 754 = .ok (.iadd, 1) := by decide +kernel
theorem dL_law_755 : decode cL_law 755 = .ok (.iaload, 1) := by decide +kernel
theorem dL_law_756 : decode cL_law 756 = .ok (.aload_n 3, 1) := by decide +kernel
theorem dL_law_757 : decode cL_law 757 = .ok (.invokestatic 132, 3) := by decide +kernel
theorem dL_law_760 : decode cL_law 760 = .ok (.istore 5, 2) := by decide +kernel
theorem dL_law_762 : decode cL_law 762 = .ok (.aload_n 2, 1) := by decide +kernel
theorem dL_law_763 : decode cL_law 763 = .ok (.aload_n 0, 1) := by decide +kernel
theorem dL_law_764 : decode cL_law 764 = .ok (.iload 4, 2) := by decide +kernel
theorem dL_law_766 : decode cL_law 766 = .ok (.iconst 1, 1) := by decide +kernel
theorem dL_law_767 : decode cL_law 767 = .ok (.iadd, 1) := by decide +kernel
theorem dL_law_768 : decode cL_law 768 = .ok (.iaload, 1) := by decide +kernel
theorem dL_law_769 : decode cL_law 769 = .ok (.aload_n 0, 1) := by decide +kernel
theorem dL_law_770 : decode cL_law 770 = .ok (.iload 4, 2) := by decide +kernel
theorem dL_law_772 : decode cL_law 772 = .ok (.iconst 2, 1) := by decide +kernel
theorem dL_law_773 : decode cL_law 773 = .ok (.iadd, 1) := by decide +kernel
theorem dL_law_774 : decode cL_law 774 = .ok (.iaload, 1) := by decide +kernel
theorem dL_law_775 : decode cL_law 775 = .ok (.invokevirtual 134, 3) := by decide +kernel
theorem dL_law_778 : decode cL_law 778 = .ok (.istore 6, 2) := by decide +kernel
theorem dL_law_780 : decode cL_law 780 = .ok (.aload_n 2, 1) := by decide +kernel
theorem dL_law_781 : decode cL_law 781 = .ok (.invokevirtual 103, 3) := by decide +kernel
theorem dL_law_784 : decode cL_law 784 = .ok (.iload 5, 2) := by decide +kernel
theorem dL_law_786 : decode cL_law 786 = .ok (.if_icmp .eq 5, 3) := by decide +kernel
theorem dL_law_789 : decode cL_law 789 = .ok (.iconst 0, 1) := by decide +kernel
theorem dL_law_790 : decode cL_law 790 = .ok (.ireturn, 1) := by decide +kernel
theorem dL_law_791 : decode cL_law 791 = .ok (.iload 5, 2) := by decide +kernel
theorem dL_law_793 : decode cL_law 793 = .ok (.ifCond .ne 15, 3) := by decide +kernel
theorem dL_law_796 : decode cL_law 796 = .ok (.aload_n 3, 1) := by decide +kernel
theorem dL_law_797 : decode cL_law 797 = .ok (.iconst 0, 1) := by decide +kernel
theorem dL_law_798 : decode cL_law 798 = .ok (.laload, 1) := by decide +kernel
theorem dL_law_799 : decode cL_law 799 = .ok (.iload 6, 2) := by decide +kernel
theorem dL_law_801 : decode cL_law 801 = .ok (.i2l, 1) := by decide +kernel
theorem dL_law_802 : decode cL_law 802 = .ok (.lcmp, 1) := by decide +kernel
theorem dL_law_803 : decode cL_law 803 = .ok (.ifCond .eq 5, 3) := by decide +kernel
theorem dL_law_806 : decode cL_law 806 = .ok (.iconst 0, 1) := by decide +kernel
theorem dL_law_807 : decode cL_law 807 = .ok (.ireturn, 1) := by decide +kernel
theorem dL_law_808 : decode cL_law 808 = .ok (.goto 1015, 3) := by decide +kernel
theorem dL_law_811 : decode cL_law 811 = .ok (.aload_n 1, 1) := by decide +kernel
theorem dL_law_812 : decode cL_law 812 = .ok (.aload_n 0, 1) := by decide +kernel
theorem dL_law_813 : decode cL_law 813 = .ok (.iload 4, 2) := by decide +kernel
theorem dL_law_815 : decode cL_law 815 = .ok (.iconst 1, 1) := by decide +kernel
theorem dL_law_816 : decode cL_law 816 = .ok (.iadd, 1) := by decide +kernel
theorem dL_law_817 : decode cL_law 817 = .ok (.iaload, 1) := by decide +kernel
theorem dL_law_818 : decode cL_law 818 = .ok (.aload_n 0, 1) := by decide +kernel
theorem dL_law_819 : decode cL_law 819 = .ok (.iload 4, 2) := by decide +kernel
theorem dL_law_821 : decode cL_law 821 = .ok (.iconst 2, 1) := by decide +kernel
theorem dL_law_822 : decode cL_law 822 = .ok (.iadd, 1) := by decide +kernel
theorem dL_law_823 : decode cL_law 823 = .ok (.iaload, 1) := by decide +kernel
theorem dL_law_824 : decode cL_law 824 = .ok (.aload_n 0, 1) := by decide +kernel
theorem dL_law_825 : decode cL_law 825 = .ok (.iload 4, 2) := by decide +kernel
theorem dL_law_827 : decode cL_law 827 = .ok (.iconst 3, 1) := by decide +kernel
theorem dL_law_828 : decode cL_law 828 = .ok (.iadd, 1) := by decide +kernel
theorem dL_law_829 : decode cL_law 829 = .ok (.iaload, 1) := by decide +kernel
theorem dL_law_830 : decode cL_law 830 = .ok (.aload_n 0, 1) := by decide +kernel
theorem dL_law_831 : decode cL_law 831 = .ok (.iload 4, 2) := by decide +kernel
theorem dL_law_833 : decode cL_law 833 = .ok (.iconst 4, 1) := by decide +kernel
theorem dL_law_834 : decode cL_law 834 = .ok (.iadd, 1) := by decide +kernel
theorem dL_law_835 : decode cL_law 835 = .ok (.iaload, 1) := by decide +kernel
theorem dL_law_836 : decode cL_law 836 = .ok (.aload_n 3, 1) := by decide +kernel
theorem dL_law_837 : decode cL_law 837 = .ok (.invokestatic 135, 3) := by decide +kernel
theorem dL_law_840 : decode cL_law 840 = .ok (.istore 5, 2) := by decide +kernel
theorem dL_law_842 : decode cL_law 842 = .ok (.aload_n 2, 1) := by decide +kernel
theorem dL_law_843 : decode cL_law 843 = .ok (.aload_n 0, 1) := by decide +kernel
theorem dL_law_844 : decode cL_law 844 = .ok (.iload 4, 2) := by decide +kernel
theorem dL_law_846 : decode cL_law 846 = .ok (.iconst 1, 1) := by decide +kernel
theorem dL_law_847 : decode cL_law 847 = .ok (.iadd, 1) := by decide +kernel
theorem dL_law_848 : decode cL_law 848 = .ok (.iaload, 1) := by decide +kernel
theorem dL_law_849 : decode cL_law 849 = .ok (.aload_n 0, 1) := by decide +kernel
theorem dL_law_850 : decode cL_law 850 = .ok (.iload 4, 2) := by decide +kernel
theorem dL_law_852 : decode cL_law 852 = .ok (.iconst 2, 1) := by decide +kernel
theorem dL_law_853 : decode cL_law 853 = .ok (.iadd, 1) := by decide +kernel
theorem dL_law_854 : decode cL_law 854 = .ok (.iaload, 1) := by decide +kernel
theorem dL_law_855 : decode cL_law 855 = .ok (.aload_n 0, 1) := by decide +kernel
theorem dL_law_856 : decode cL_law 856 = .ok (.iload 4, 2) := by decide +kernel
theorem dL_law_858 : decode cL_law 858 = .ok (.iconst 3, 1) := by decide +kernel
theorem dL_law_859 : decode cL_law 859 = .ok (.iadd, 1) := by decide +kernel
theorem dL_law_860 : decode cL_law 860 = .ok (.iaload, 1) := by decide +kernel
theorem dL_law_861 : decode cL_law 861 = .ok (.aload_n 0, 1) := by decide +kernel
theorem dL_law_862 : decode cL_law 862 = .ok (.iload 4, 2) := by decide +kernel
theorem dL_law_864 : decode cL_law 864 = .ok (.iconst 4, 1) := by decide +kernel
theorem dL_law_865 : decode cL_law 865 = .ok (.iadd, 1) := by decide +kernel
theorem dL_law_866 : decode cL_law 866 = .ok (.iaload, 1) := by decide +kernel
theorem dL_law_867 : decode cL_law 867 = .ok (.invokevirtual 137, 3) := by decide +kernel
theorem dL_law_870 : decode cL_law 870 = .ok (.istore 6, 2) := by decide +kernel
theorem dL_law_872 : decode cL_law 872 = .ok (.aload_n 2, 1) := by decide +kernel
theorem dL_law_873 : decode cL_law 873 = .ok (.invokevirtual 103, 3) := by decide +kernel
theorem dL_law_876 : decode cL_law 876 = .ok (.iload 5, 2) := by decide +kernel
theorem dL_law_878 : decode cL_law 878 = .ok (.if_icmp .eq 5, 3) := by decide +kernel
theorem dL_law_881 : decode cL_law 881 = .ok (.iconst 0, 1) := by decide +kernel
theorem dL_law_882 : decode cL_law 882 = .ok (.ireturn, 1) := by decide +kernel
theorem dL_law_883 : decode cL_law 883 = .ok (.iload 5, 2) := by decide +kernel
theorem dL_law_885 : decode cL_law 885 = .ok (.ifCond .ne 15, 3) := by decide +kernel
theorem dL_law_888 : decode cL_law 888 = .ok (.aload_n 3, 1) := by decide +kernel
theorem dL_law_889 : decode cL_law 889 = .ok (.iconst 0, 1) := by decide +kernel
theorem dL_law_890 : decode cL_law 890 = .ok (.laload, 1) := by decide +kernel
theorem dL_law_891 : decode cL_law 891 = .ok (.iload 6, 2) := by decide +kernel
theorem dL_law_893 : decode cL_law 893 = .ok (.i2l, 1) := by decide +kernel
theorem dL_law_894 : decode cL_law 894 = .ok (.lcmp, 1) := by decide +kernel
theorem dL_law_895 : decode cL_law 895 = .ok (.ifCond .eq 5, 3) := by decide +kernel
theorem dL_law_898 : decode cL_law 898 = .ok (.iconst 0, 1) := by decide +kernel
theorem dL_law_899 : decode cL_law 899 = .ok (.ireturn, 1) := by decide +kernel
theorem dL_law_900 : decode cL_law 900 = .ok (.goto 923, 3) := by decide +kernel
theorem dL_law_903 : decode cL_law 903 = .ok (.aload_n 1, 1) := by decide +kernel
theorem dL_law_904 : decode cL_law 904 = .ok (.aload_n 0, 1) := by decide +kernel
theorem dL_law_905 : decode cL_law 905 = .ok (.iload 4, 2) := by decide +kernel
theorem dL_law_907 : decode cL_law 907 = .ok (.iconst 1, 1) := by decide +kernel
theorem dL_law_908 : decode cL_law 908 = .ok (.iadd, 1) := by decide +kernel
theorem dL_law_909 : decode cL_law 909 = .ok (.iaload, 1) := by decide +kernel
theorem dL_law_910 : decode cL_law 910 = .ok (.aload_n 0, 1) := by decide +kernel
theorem dL_law_911 : decode cL_law 911 = .ok (.iload 4, 2) := by decide +kernel
theorem dL_law_913 : decode cL_law 913 = .ok (.iconst 2, 1) := by decide +kernel
theorem dL_law_914 : decode cL_law 914 = .ok (.iadd, 1) := by decide +kernel
theorem dL_law_915 : decode cL_law 915 = .ok (.iaload, 1) := by decide +kernel
theorem dL_law_916 : decode cL_law 916 = .ok (.aload_n 3, 1) := by decide +kernel
theorem dL_law_917 : decode cL_law 917 = .ok (.invokestatic 138, 3) := by decide +kernel
theorem dL_law_920 : decode cL_law 920 = .ok (.istore 5, 2) := by decide +kernel
theorem dL_law_922 : decode cL_law 922 = .ok (.aload_n 2, 1) := by decide +kernel
theorem dL_law_923 : decode cL_law 923 = .ok (.aload_n 0, 1) := by decide +kernel
theorem dL_law_924 : decode cL_law 924 = .ok (.iload 4, 2) := by decide +kernel
theorem dL_law_926 : decode cL_law 926 = .ok (.iconst 1, 1) := by decide +kernel
theorem dL_law_927 : decode cL_law 927 = .ok (.iadd, 1) := by decide +kernel
theorem dL_law_928 : decode cL_law 928 = .ok (.iaload, 1) := by decide +kernel
theorem dL_law_929 : decode cL_law 929 = .ok (.aload_n 0, 1) := by decide +kernel
theorem dL_law_930 : decode cL_law 930 = .ok (.iload 4, 2) := by decide +kernel
theorem dL_law_932 : decode cL_law 932 = .ok (.iconst 2, 1) := by decide +kernel
theorem dL_law_933 : decode cL_law 933 = .ok (.iadd, 1) := by decide +kernel
theorem dL_law_934 : decode cL_law 934 = .ok (.iaload, 1) := by decide +kernel
theorem dL_law_935 : decode cL_law 935 = .ok (.invokevirtual 140, 3) := by decide +kernel
theorem dL_law_938 : decode cL_law 938 = .ok (.istore 6, 2) := by decide +kernel
theorem dL_law_940 : decode cL_law 940 = .ok (.aload_n 2, 1) := by decide +kernel
theorem dL_law_941 : decode cL_law 941 = .ok (.invokevirtual 103, 3) := by decide +kernel
theorem dL_law_944 : decode cL_law 944 = .ok (.iload 5, 2) := by decide +kernel
theorem dL_law_946 : decode cL_law 946 = .ok (.if_icmp .eq 5, 3) := by decide +kernel
theorem dL_law_949 : decode cL_law 949 = .ok (.iconst 0, 1) := by decide +kernel
theorem dL_law_950 : decode cL_law 950 = .ok (.ireturn, 1) := by decide +kernel
theorem dL_law_951 : decode cL_law 951 = .ok (.iload 5, 2) := by decide +kernel
theorem dL_law_953 : decode cL_law 953 = .ok (.ifCond .ne 15, 3) := by decide +kernel
theorem dL_law_956 : decode cL_law 956 = .ok (.aload_n 3, 1) := by decide +kernel
theorem dL_law_957 : decode cL_law 957 = .ok (.iconst 0, 1) := by decide +kernel
theorem dL_law_958 : decode cL_law 958 = .ok (.laload, 1) := by decide +kernel
theorem dL_law_959 : decode cL_law 959 = .ok (.iload 6, 2) := by decide +kernel
theorem dL_law_961 : decode cL_law 961 = .ok (.i2l, 1) := by decide +kernel
theorem dL_law_962 : decode cL_law 962 = .ok (.lcmp, 1) := by decide +kernel
theorem dL_law_963 : decode cL_law 963 = .ok (.ifCond .eq 5, 3) := by decide +kernel
theorem dL_law_966 : decode cL_law 966 = .ok (.iconst 0, 1) := by decide +kernel
theorem dL_law_967 : decode cL_law 967 = .ok (.ireturn, 1) := by decide +kernel
theorem dL_law_968 : decode cL_law 968 = .ok (.goto 855, 3) := by decide +kernel
theorem dL_law_971 : decode cL_law 971 = .ok (.aload_n 1, 1) := by decide +kernel
theorem dL_law_972 : decode cL_law 972 = .ok (.aload_n 0, 1) := by decide +kernel
theorem dL_law_973 : decode cL_law 973 = .ok (.iload 4, 2) := by decide +kernel
theorem dL_law_975 : decode cL_law 975 = .ok (.iconst 1, 1) := by decide +kernel
theorem dL_law_976 : decode cL_law 976 = .ok (.iadd, 1) := by decide +kernel
theorem dL_law_977 : decode cL_law 977 = .ok (.iaload, 1) := by decide +kernel
theorem dL_law_978 : decode cL_law 978 = .ok (.aload_n 3, 1) := by decide +kernel
theorem dL_law_979 : decode cL_law 979 = .ok (.invokestatic 141, 3) := by decide +kernel
theorem dL_law_982 : decode cL_law 982 = .ok (.istore 5, 2) := by decide +kernel
theorem dL_law_984 : decode cL_law 984 = .ok (.aload_n 2, 1) := by decide +kernel
theorem dL_law_985 : decode cL_law 985 = .ok (.aload_n 0, 1) := by decide +kernel
theorem dL_law_986 : decode cL_law 986 = .ok (.iload 4, 2) := by decide +kernel
theorem dL_law_988 : decode cL_law 988 = .ok (.iconst 1, 1) := by decide +kernel
theorem dL_law_989 : decode cL_law 989 = .ok (.iadd, 1) := by decide +kernel
theorem dL_law_990 : decode cL_law 990 = .ok (.iaload, 1) := by decide +kernel
theorem dL_law_991 : decode cL_law 991 = .ok (.invokevirtual 143, 3) := by decide +kernel
theorem dL_law_994 : decode cL_law 994 = .ok (.istore 6, 2) := by decide +kernel
theorem dL_law_996 : decode cL_law 996 = .ok (.aload_n 2, 1) := by decide +kernel
theorem dL_law_997 : decode cL_law 997 = .ok (.invokevirtual 103, 3) := by decide +kernel
theorem dL_law_1000 : decode cL_law 1000 = .ok (.iload 5, 2) := by decide +kernel
theorem dL_law_1002 : decode cL_law 1002 = .ok (.if_icmp .eq 5, 3) := by decide +kernel
theorem dL_law_1005 : decode cL_law 1005 = .ok (.iconst 0, 1) := by decide +kernel
theorem dL_law_1006 : decode cL_law 1006 = .ok (.ireturn, 1) := by decide +kernel
theorem dL_law_1007 : decode cL_law 1007 = .ok (.iload 5, 2) := by decide +kernel
theorem dL_law_1009 : decode cL_law 1009 = .ok (.ifCond .ne 15, 3) := by decide +kernel
theorem dL_law_1012 : decode cL_law 1012 = .ok (.aload_n 3, 1) := by decide +kernel
theorem dL_law_1013 : decode cL_law 1013 = .ok (.iconst 0, 1) := by decide +kernel
theorem dL_law_1014 : decode cL_law 1014 = .ok (.laload, 1) := by decide +kernel
theorem dL_law_1015 : decode cL_law 1015 = .ok (.iload 6, 2) := by decide +kernel
theorem dL_law_1017 : decode cL_law 1017 = .ok (.i2l, 1) := by decide +kernel
theorem dL_law_1018 : decode cL_law 1018 = .ok (.lcmp, 1) := by decide +kernel
theorem dL_law_1019 : decode cL_law 1019 = .ok (.ifCond .eq 5, 3) := by decide +kernel
theorem dL_law_1022 : decode cL_law 1022 = .ok (.iconst 0, 1) := by decide +kernel
theorem dL_law_1023 : decode cL_law 1023 = .ok (.ireturn, 1) := by decide +kernel
theorem dL_law_1024 : decode cL_law 1024 = .ok (.goto 799, 3) := by decide +kernel
theorem dL_law_1027 : decode cL_law 1027 = .ok (.aload_n 1, 1) := by decide +kernel
theorem dL_law_1028 : decode cL_law 1028 = .ok (.aload_n 0, 1) := by decide +kernel
theorem dL_law_1029 : decode cL_law 1029 = .ok (.iload 4, 2) := by decide +kernel
theorem dL_law_1031 : decode cL_law 1031 = .ok (.iconst 1, 1) := by decide +kernel
theorem dL_law_1032 : decode cL_law 1032 = .ok (.iadd, 1) := by decide +kernel
theorem dL_law_1033 : decode cL_law 1033 = .ok (.iaload, 1) := by decide +kernel
theorem dL_law_1034 : decode cL_law 1034 = .ok (.aload_n 0, 1) := by decide +kernel
theorem dL_law_1035 : decode cL_law 1035 = .ok (.iload 4, 2) := by decide +kernel
theorem dL_law_1037 : decode cL_law 1037 = .ok (.iconst 2, 1) := by decide +kernel
theorem dL_law_1038 : decode cL_law 1038 = .ok (.iadd, 1) := by decide +kernel
theorem dL_law_1039 : decode cL_law 1039 = .ok (.iaload, 1) := by decide +kernel
theorem dL_law_1040 : decode cL_law 1040 = .ok (.ifCond .eq 7, 3) := by decide +kernel
theorem dL_law_1043 : decode cL_law 1043 = .ok (.iconst 1, 1) := by decide +kernel
theorem dL_law_1044 : decode cL_law 1044 = .ok (.goto 4, 3) := by decide +kernel
theorem dL_law_1047 : decode cL_law 1047 = .ok (.iconst 0, 1) := by decide +kernel
theorem dL_law_1048 : decode cL_law 1048 = .ok (.aload_n 3, 1) := by decide +kernel
theorem dL_law_1049 : decode cL_law 1049 = .ok (.invokestatic 144, 3) := by decide +kernel
theorem dL_law_1052 : decode cL_law 1052 = .ok (.istore 5, 2) := by decide +kernel
theorem dL_law_1054 : decode cL_law 1054 = .ok (.aload_n 2, 1) := by decide +kernel
theorem dL_law_1055 : decode cL_law 1055 = .ok (.aload_n 0, 1) := by decide +kernel
theorem dL_law_1056 : decode cL_law 1056 = .ok (.iload 4, 2) := by decide +kernel
theorem dL_law_1058 : decode cL_law 1058 = .ok (.iconst 1, 1) := by decide +kernel
theorem dL_law_1059 : decode cL_law 1059 = .ok (.iadd, 1) := by decide +kernel
theorem dL_law_1060 : decode cL_law 1060 = .ok (.iaload, 1) := by decide +kernel
theorem dL_law_1061 : decode cL_law 1061 = .ok (.aload_n 0, 1) := by decide +kernel
theorem dL_law_1062 : decode cL_law 1062 = .ok (.iload 4, 2) := by decide +kernel
theorem dL_law_1064 : decode cL_law 1064 = .ok (.iconst 2, 1) := by decide +kernel
theorem dL_law_1065 : decode cL_law 1065 = .ok (.iadd, 1) := by decide +kernel
theorem dL_law_1066 : decode cL_law 1066 = .ok (.iaload, 1) := by decide +kernel
theorem dL_law_1067 : decode cL_law 1067 = .ok (.ifCond .eq 7, 3) := by decide +kernel
theorem dL_law_1070 : decode cL_law 1070 = .ok (.iconst 1, 1) := by decide +kernel
theorem dL_law_1071 : decode cL_law 1071 = .ok (.goto 4, 3) := by decide +kernel
theorem dL_law_1074 : decode cL_law 1074 = .ok (.iconst 0, 1) := by decide +kernel
theorem dL_law_1075 : decode cL_law 1075 = .ok (.invokevirtual 146, 3) := by decide +kernel
theorem dL_law_1078 : decode cL_law 1078 = .ok (.istore 6, 2) := by decide +kernel
theorem dL_law_1080 : decode cL_law 1080 = .ok (.aload_n 2, 1) := by decide +kernel
theorem dL_law_1081 : decode cL_law 1081 = .ok (.invokevirtual 103, 3) := by decide +kernel
theorem dL_law_1084 : decode cL_law 1084 = .ok (.iload 5, 2) := by decide +kernel
theorem dL_law_1086 : decode cL_law 1086 = .ok (.if_icmp .eq 5, 3) := by decide +kernel
theorem dL_law_1089 : decode cL_law 1089 = .ok (.iconst 0, 1) := by decide +kernel
theorem dL_law_1090 : decode cL_law 1090 = .ok (.ireturn, 1) := by decide +kernel
theorem dL_law_1091 : decode cL_law 1091 = .ok (.iload 5, 2) := by decide +kernel
theorem dL_law_1093 : decode cL_law 1093 = .ok (.ifCond .ne 15, 3) := by decide +kernel
theorem dL_law_1096 : decode cL_law 1096 = .ok (.aload_n 3, 1) := by decide +kernel
theorem dL_law_1097 : decode cL_law 1097 = .ok (.iconst 0, 1) := by decide +kernel
theorem dL_law_1098 : decode cL_law 1098 = .ok (.laload, 1) := by decide +kernel
theorem dL_law_1099 : decode cL_law 1099 = .ok (.iload 6, 2) := by decide +kernel
theorem dL_law_1101 : decode cL_law 1101 = .ok (.i2l, 1) := by decide +kernel
theorem dL_law_1102 : decode cL_law 1102 = .ok (.lcmp, 1) := by decide +kernel
theorem dL_law_1103 : decode cL_law 1103 = .ok (.ifCond .eq 5, 3) := by decide +kernel
theorem dL_law_1106 : decode cL_law 1106 = .ok (.iconst 0, 1) := by decide +kernel
theorem dL_law_1107 : decode cL_law 1107 = .ok (.ireturn, 1) := by decide +kernel
theorem dL_law_1108 : decode cL_law 1108 = .ok (.goto 715, 3) := by decide +kernel
theorem dL_law_1111 : decode cL_law 1111 = .ok (.aload_n 1, 1) := by decide +kernel
theorem dL_law_1112 : decode cL_law 1112 = .ok (.aload_n 0, 1) := by decide +kernel
theorem dL_law_1113 : decode cL_law 1113 = .ok (.iload 4, 2) := by decide +kernel
theorem dL_law_1115 : decode cL_law 1115 = .ok (.iconst 1, 1) := by decide +kernel
theorem dL_law_1116 : decode cL_law 1116 = .ok (.iadd, 1) := by decide +kernel
theorem dL_law_1117 : decode cL_law 1117 = .ok (.iaload, 1) := by decide +kernel
theorem dL_law_1118 : decode cL_law 1118 = .ok (.aload_n 0, 1) := by decide +kernel
theorem dL_law_1119 : decode cL_law 1119 = .ok (.iload 4, 2) := by decide +kernel
theorem dL_law_1121 : decode cL_law 1121 = .ok (.iconst 2, 1) := by decide +kernel
theorem dL_law_1122 : decode cL_law 1122 = .ok (.iadd, 1) := by decide +kernel
theorem dL_law_1123 : decode cL_law 1123 = .ok (.iaload, 1) := by decide +kernel
theorem dL_law_1124 : decode cL_law 1124 = .ok (.aload_n 0, 1) := by decide +kernel
theorem dL_law_1125 : decode cL_law 1125 = .ok (.iload 4, 2) := by decide +kernel
theorem dL_law_1127 : decode cL_law 1127 = .ok (.iconst 3, 1) := by decide +kernel
theorem dL_law_1128 : decode cL_law 1128 = .ok (.iadd, 1) := by decide +kernel
theorem dL_law_1129 : decode cL_law 1129 = .ok (.iaload, 1) := by decide +kernel
theorem dL_law_1130 : decode cL_law 1130 = .ok (.aload_n 0, 1) := by decide +kernel
theorem dL_law_1131 : decode cL_law 1131 = .ok (.iload 4, 2) := by decide +kernel
theorem dL_law_1133 : decode cL_law 1133 = .ok (.iconst 4, 1) := by decide +kernel
theorem dL_law_1134 : decode cL_law 1134 = .ok (.iadd, 1) := by decide +kernel
theorem dL_law_1135 : decode cL_law 1135 = .ok (.iaload, 1) := by decide +kernel
theorem dL_law_1136 : decode cL_law 1136 = .ok (.ifCond .eq 7, 3) := by decide +kernel
theorem dL_law_1139 : decode cL_law 1139 = .ok (.iconst 1, 1) := by decide +kernel
theorem dL_law_1140 : decode cL_law 1140 = .ok (.goto 4, 3) := by decide +kernel
theorem dL_law_1143 : decode cL_law 1143 = .ok (.iconst 0, 1) := by decide +kernel
theorem dL_law_1144 : decode cL_law 1144 = .ok (.aload_n 3, 1) := by decide +kernel
theorem dL_law_1145 : decode cL_law 1145 = .ok (.invokestatic 147, 3) := by decide +kernel
theorem dL_law_1148 : decode cL_law 1148 = .ok (.istore 5, 2) := by decide +kernel
theorem dL_law_1150 : decode cL_law 1150 = .ok (.aload_n 2, 1) := by decide +kernel
theorem dL_law_1151 : decode cL_law 1151 = .ok (.aload_n 0, 1) := by decide +kernel
theorem dL_law_1152 : decode cL_law 1152 = .ok (.iload 4, 2) := by decide +kernel
theorem dL_law_1154 : decode cL_law 1154 = .ok (.iconst 1, 1) := by decide +kernel
theorem dL_law_1155 : decode cL_law 1155 = .ok (.iadd, 1) := by decide +kernel
theorem dL_law_1156 : decode cL_law 1156 = .ok (.iaload, 1) := by decide +kernel
theorem dL_law_1157 : decode cL_law 1157 = .ok (.aload_n 0, 1) := by decide +kernel
theorem dL_law_1158 : decode cL_law 1158 = .ok (.iload 4, 2) := by decide +kernel
theorem dL_law_1160 : decode cL_law 1160 = .ok (.iconst 2, 1) := by decide +kernel
theorem dL_law_1161 : decode cL_law 1161 = .ok (.iadd, 1) := by decide +kernel
theorem dL_law_1162 : decode cL_law 1162 = .ok (.iaload, 1) := by decide +kernel
theorem dL_law_1163 : decode cL_law 1163 = .ok (.aload_n 0, 1) := by decide +kernel
theorem dL_law_1164 : decode cL_law 1164 = .ok (.iload 4, 2) := by decide +kernel
theorem dL_law_1166 : decode cL_law 1166 = .ok (.iconst 3, 1) := by decide +kernel
theorem dL_law_1167 : decode cL_law 1167 = .ok (.iadd, 1) := by decide +kernel
theorem dL_law_1168 : decode cL_law 1168 = .ok (.iaload, 1) := by decide +kernel
theorem dL_law_1169 : decode cL_law 1169 = .ok (.aload_n 0, 1) := by decide +kernel
theorem dL_law_1170 : decode cL_law 1170 = .ok (.iload 4, 2) := by decide +kernel
theorem dL_law_1172 : decode cL_law 1172 = .ok (.iconst 4, 1) := by decide +kernel
theorem dL_law_1173 : decode cL_law 1173 = .ok (.iadd, 1) := by decide +kernel
theorem dL_law_1174 : decode cL_law 1174 = .ok (.iaload, 1) := by decide +kernel
theorem dL_law_1175 : decode cL_law 1175 = .ok (.ifCond .eq 7, 3) := by decide +kernel
theorem dL_law_1178 : decode cL_law 1178 = .ok (.iconst 1, 1) := by decide +kernel
theorem dL_law_1179 : decode cL_law 1179 = .ok (.goto 4, 3) := by decide +kernel
theorem dL_law_1182 : decode cL_law 1182 = .ok (.iconst 0, 1) := by decide +kernel
theorem dL_law_1183 : decode cL_law 1183 = .ok (.invokevirtual 150, 3) := by decide +kernel
theorem dL_law_1186 : decode cL_law 1186 = .ok (.istore 6, 2) := by decide +kernel
theorem dL_law_1188 : decode cL_law 1188 = .ok (.aload_n 2, 1) := by decide +kernel
theorem dL_law_1189 : decode cL_law 1189 = .ok (.invokevirtual 103, 3) := by decide +kernel
theorem dL_law_1192 : decode cL_law 1192 = .ok (.iload 5, 2) := by decide +kernel
theorem dL_law_1194 : decode cL_law 1194 = .ok (.if_icmp .eq 5, 3) := by decide +kernel
theorem dL_law_1197 : decode cL_law 1197 = .ok (.iconst 0, 1) := by decide +kernel
theorem dL_law_1198 : decode cL_law 1198 = .ok (.ireturn, 1) := by decide +kernel
theorem dL_law_1199 : decode cL_law 1199 = .ok (.iload 5, 2) := by decide +kernel
theorem dL_law_1201 : decode cL_law 1201 = .ok (.ifCond .ne 15, 3) := by decide +kernel
theorem dL_law_1204 : decode cL_law 1204 = .ok (.aload_n 3, 1) := by decide +kernel
theorem dL_law_1205 : decode cL_law 1205 = .ok (.iconst 0, 1) := by decide +kernel
theorem dL_law_1206 : decode cL_law 1206 = .ok (.laload, 1) := by decide +kernel
theorem dL_law_1207 : decode cL_law 1207 = .ok (.iload 6, 2) := by decide +kernel
theorem dL_law_1209 : decode cL_law 1209 = .ok (.i2l, 1) := by decide +kernel
theorem dL_law_1210 : decode cL_law 1210 = .ok (.lcmp, 1) := by decide +kernel
theorem dL_law_1211 : decode cL_law 1211 = .ok (.ifCond .eq 5, 3) := by decide +kernel
theorem dL_law_1214 : decode cL_law 1214 = .ok (.iconst 0, 1) := by decide +kernel
theorem dL_law_1215 : decode cL_law 1215 = .ok (.ireturn, 1) := by decide +kernel
theorem dL_law_1216 : decode cL_law 1216 = .ok (.goto 607, 3) := by decide +kernel
theorem dL_law_1219 : decode cL_law 1219 = .ok (.aload_n 1, 1) := by decide +kernel
theorem dL_law_1220 : decode cL_law 1220 = .ok (.aload_n 0, 1) := by decide +kernel
theorem dL_law_1221 : decode cL_law 1221 = .ok (.iload 4, 2) := by decide +kernel
theorem dL_law_1223 : decode cL_law 1223 = .ok (.iconst 1, 1) := by decide +kernel
theorem dL_law_1224 : decode cL_law 1224 = .ok (.iadd, 1) := by decide +kernel
theorem dL_law_1225 : decode cL_law 1225 = .ok (.iaload, 1) := by decide +kernel
theorem dL_law_1226 : decode cL_law 1226 = .ok (.aload_n 0, 1) := by decide +kernel
theorem dL_law_1227 : decode cL_law 1227 = .ok (.iload 4, 2) := by decide +kernel
theorem dL_law_1229 : decode cL_law 1229 = .ok (.iconst 2, 1) := by decide +kernel
theorem dL_law_1230 : decode cL_law 1230 = .ok (.iadd, 1) := by decide +kernel
theorem dL_law_1231 : decode cL_law 1231 = .ok (.iaload, 1) := by decide +kernel
theorem dL_law_1232 : decode cL_law 1232 = .ok (.aload_n 0, 1) := by decide +kernel
theorem dL_law_1233 : decode cL_law 1233 = .ok (.iload 4, 2) := by decide +kernel
theorem dL_law_1235 : decode cL_law 1235 = .ok (.iconst 3, 1) := by decide +kernel
theorem dL_law_1236 : decode cL_law 1236 = .ok (.iadd, 1) := by decide +kernel
theorem dL_law_1237 : decode cL_law 1237 = .ok (.iaload, 1) := by decide +kernel
theorem dL_law_1238 : decode cL_law 1238 = .ok (.aload_n 0, 1) := by decide +kernel
theorem dL_law_1239 : decode cL_law 1239 = .ok (.iload 4, 2) := by decide +kernel
theorem dL_law_1241 : decode cL_law 1241 = .ok (.iconst 4, 1) := by decide +kernel
theorem dL_law_1242 : decode cL_law 1242 = .ok (.iadd, 1) := by decide +kernel
theorem dL_law_1243 : decode cL_law 1243 = .ok (.iaload, 1) := by decide +kernel
theorem dL_law_1244 : decode cL_law 1244 = .ok (.aload_n 3, 1) := by decide +kernel
theorem dL_law_1245 : decode cL_law 1245 = .ok (.invokestatic 151, 3) := by decide +kernel
theorem dL_law_1248 : decode cL_law 1248 = .ok (.istore 5, 2) := by decide +kernel
theorem dL_law_1250 : decode cL_law 1250 = .ok (.aload_n 2, 1) := by decide +kernel
theorem dL_law_1251 : decode cL_law 1251 = .ok (.aload_n 0, 1) := by decide +kernel
theorem dL_law_1252 : decode cL_law 1252 = .ok (.iload 4, 2) := by decide +kernel
theorem dL_law_1254 : decode cL_law 1254 = .ok (.iconst 1, 1) := by decide +kernel
theorem dL_law_1255 : decode cL_law 1255 = .ok (.iadd, 1) := by decide +kernel
theorem dL_law_1256 : decode cL_law 1256 = .ok (.iaload, 1) := by decide +kernel
theorem dL_law_1257 : decode cL_law 1257 = .ok (.aload_n 0, 1) := by decide +kernel
theorem dL_law_1258 : decode cL_law 1258 = .ok (.iload 4, 2) := by decide +kernel
theorem dL_law_1260 : decode cL_law 1260 = .ok (.iconst 2, 1) := by decide +kernel
theorem dL_law_1261 : decode cL_law 1261 = .ok (.iadd, 1) := by decide +kernel
theorem dL_law_1262 : decode cL_law 1262 = .ok (.iaload, 1) := by decide +kernel
theorem dL_law_1263 : decode cL_law 1263 = .ok (.aload_n 0, 1) := by decide +kernel
theorem dL_law_1264 : decode cL_law 1264 = .ok (.iload 4, 2) := by decide +kernel
theorem dL_law_1266 : decode cL_law 1266 = .ok (.iconst 3, 1) := by decide +kernel
theorem dL_law_1267 : decode cL_law 1267 = .ok (.iadd, 1) := by decide +kernel
theorem dL_law_1268 : decode cL_law 1268 = .ok (.iaload, 1) := by decide +kernel
theorem dL_law_1269 : decode cL_law 1269 = .ok (.aload_n 0, 1) := by decide +kernel
theorem dL_law_1270 : decode cL_law 1270 = .ok (.iload 4, 2) := by decide +kernel
theorem dL_law_1272 : decode cL_law 1272 = .ok (.iconst 4, 1) := by decide +kernel
theorem dL_law_1273 : decode cL_law 1273 = .ok (.iadd, 1) := by decide +kernel
theorem dL_law_1274 : decode cL_law 1274 = .ok (.iaload, 1) := by decide +kernel
theorem dL_law_1275 : decode cL_law 1275 = .ok (.invokevirtual 153, 3) := by decide +kernel
theorem dL_law_1278 : decode cL_law 1278 = .ok (.istore 6, 2) := by decide +kernel
theorem dL_law_1280 : decode cL_law 1280 = .ok (.aload_n 2, 1) := by decide +kernel
theorem dL_law_1281 : decode cL_law 1281 = .ok (.invokevirtual 103, 3) := by decide +kernel
theorem dL_law_1284 : decode cL_law 1284 = .ok (.iload 5, 2) := by decide +kernel
theorem dL_law_1286 : decode cL_law 1286 = .ok (.if_icmp .eq 5, 3) := by decide +kernel
theorem dL_law_1289 : decode cL_law 1289 = .ok (.iconst 0, 1) := by decide +kernel
theorem dL_law_1290 : decode cL_law 1290 = .ok (.ireturn, 1) := by decide +kernel
theorem dL_law_1291 : decode cL_law 1291 = .ok (.iload 5, 2) := by decide +kernel
theorem dL_law_1293 : decode cL_law 1293 = .ok (.ifCond .ne 15, 3) := by decide +kernel
theorem dL_law_1296 : decode cL_law 1296 = .ok (.aload_n 3, 1) := by decide +kernel
theorem dL_law_1297 : decode cL_law 1297 = .ok (.iconst 0, 1) := by decide +kernel
theorem dL_law_1298 : decode cL_law 1298 = .ok (.laload, 1) := by decide +kernel
theorem dL_law_1299 : decode cL_law 1299 = .ok (.iload 6, 2) := by decide +kernel
theorem dL_law_1301 : decode cL_law 1301 = .ok (.i2l, 1) := by decide +kernel
theorem dL_law_1302 : decode cL_law 1302 = .ok (.lcmp, 1) := by decide +kernel
theorem dL_law_1303 : decode cL_law 1303 = .ok (.ifCond .eq 5, 3) := by decide +kernel
theorem dL_law_1306 : decode cL_law 1306 = .ok (.iconst 0, 1) := by decide +kernel
theorem dL_law_1307 : decode cL_law 1307 = .ok (.ireturn, 1) := by decide +kernel
theorem dL_law_1308 : decode cL_law 1308 = .ok (.goto 515, 3) := by decide +kernel
theorem dL_law_1311 : decode cL_law 1311 = .ok (.aload_n 1, 1) := by decide +kernel
theorem dL_law_1312 : decode cL_law 1312 = .ok (.aload_n 0, 1) := by decide +kernel
theorem dL_law_1313 : decode cL_law 1313 = .ok (.iload 4, 2) := by decide +kernel
theorem dL_law_1315 : decode cL_law 1315 = .ok (.iconst 1, 1) := by decide +kernel
theorem dL_law_1316 : decode cL_law 1316 = .ok (.iadd, 1) := by decide +kernel
theorem dL_law_1317 : decode cL_law 1317 = .ok (.iaload, 1) := by decide +kernel
theorem dL_law_1318 : decode cL_law 1318 = .ok (.aload_n 3, 1) := by decide +kernel
theorem dL_law_1319 : decode cL_law 1319 = .ok (.invokestatic 154, 3) := by decide +kernel
theorem dL_law_1322 : decode cL_law 1322 = .ok (.istore 5, 2) := by decide +kernel
theorem dL_law_1324 : decode cL_law 1324 = .ok (.aload_n 2, 1) := by decide +kernel
theorem dL_law_1325 : decode cL_law 1325 = .ok (.aload_n 0, 1) := by decide +kernel
theorem dL_law_1326 : decode cL_law 1326 = .ok (.iload 4, 2) := by decide +kernel
theorem dL_law_1328 : decode cL_law 1328 = .ok (.iconst 1, 1) := by decide +kernel
theorem dL_law_1329 : decode cL_law 1329 = .ok (.iadd, 1) := by decide +kernel
theorem dL_law_1330 : decode cL_law 1330 = .ok (.iaload, 1) := by decide +kernel
theorem dL_law_1331 : decode cL_law 1331 = .ok (.invokevirtual 156, 3) := by decide +kernel
theorem dL_law_1334 : decode cL_law 1334 = .ok (.istore 6, 2) := by decide +kernel
theorem dL_law_1336 : decode cL_law 1336 = .ok (.aload_n 2, 1) := by decide +kernel
theorem dL_law_1337 : decode cL_law 1337 = .ok (.invokevirtual 103, 3) := by decide +kernel
theorem dL_law_1340 : decode cL_law 1340 = .ok (.iload 5, 2) := by decide +kernel
theorem dL_law_1342 : decode cL_law 1342 = .ok (.if_icmp .eq 5, 3) := by decide +kernel
theorem dL_law_1345 : decode cL_law 1345 = .ok (.iconst 0, 1) := by decide +kernel
theorem dL_law_1346 : decode cL_law 1346 = .ok (.ireturn, 1) := by decide +kernel
theorem dL_law_1347 : decode cL_law 1347 = .ok (.iload 5, 2) := by decide +kernel
theorem dL_law_1349 : decode cL_law 1349 = .ok (.ifCond .ne 15, 3) := by decide +kernel
theorem dL_law_1352 : decode cL_law 1352 = .ok (.aload_n 3, 1) := by decide +kernel
theorem dL_law_1353 : decode cL_law 1353 = .ok (.iconst 0, 1) := by decide +kernel
theorem dL_law_1354 : decode cL_law 1354 = .ok (.laload, 1) := by decide +kernel
theorem dL_law_1355 : decode cL_law 1355 = .ok (.iload 6, 2) := by decide +kernel
theorem dL_law_1357 : decode cL_law 1357 = .ok (.i2l, 1) := by decide +kernel
theorem dL_law_1358 : decode cL_law 1358 = .ok (.lcmp, 1) := by decide +kernel
theorem dL_law_1359 : decode cL_law 1359 = .ok (.ifCond .eq 5, 3) := by decide +kernel
theorem dL_law_1362 : decode cL_law 1362 = .ok (.iconst 0, 1) := by decide +kernel
theorem dL_law_1363 : decode cL_law 1363 = .ok (.ireturn, 1) := by decide +kernel
theorem dL_law_1364 : decode cL_law 1364 = .ok (.goto 459, 3) := by decide +kernel
theorem dL_law_1367 : decode cL_law 1367 = .ok (.aload_n 1, 1) := by decide +kernel
theorem dL_law_1368 : decode cL_law 1368 = .ok (.aload_n 0, 1) := by decide +kernel
theorem dL_law_1369 : decode cL_law 1369 = .ok (.iload 4, 2) := by decide +kernel
theorem dL_law_1371 : decode cL_law 1371 = .ok (.iconst 1, 1) := by decide +kernel
theorem dL_law_1372 : decode cL_law 1372 = .ok (.iadd, 1) := by decide +kernel
theorem dL_law_1373 : decode cL_law 1373 = .ok (.iaload, 1) := by decide +kernel
theorem dL_law_1374 : decode cL_law 1374 = .ok (.aload_n 3, 1) := by decide +kernel
theorem dL_law_1375 : decode cL_law 1375 = .ok (.invokestatic 157, 3) := by decide +kernel
theorem dL_law_1378 : decode cL_law 1378 = .ok (.istore 5, 2) := by decide +kernel
theorem dL_law_1380 : decode cL_law 1380 = .ok (.aload_n 2, 1) := by decide +kernel
theorem dL_law_1381 : decode cL_law 1381 = .ok (.aload_n 0, 1) := by decide +kernel
theorem dL_law_1382 : decode cL_law 1382 = .ok (.iload 4, 2) := by decide +kernel
theorem dL_law_1384 : decode cL_law 1384 = .ok (.iconst 1, 1) := by decide +kernel
theorem dL_law_1385 : decode cL_law 1385 = .ok (.iadd, 1) := by decide +kernel
theorem dL_law_1386 : decode cL_law 1386 = .ok (.iaload, 1) := by decide +kernel
theorem dL_law_1387 : decode cL_law 1387 = .ok (.invokevirtual 159, 3) := by decide +kernel
theorem dL_law_1390 : decode cL_law 1390 = .ok (.istore 6, 2) := by decide +kernel
theorem dL_law_1392 : decode cL_law 1392 = .ok (.aload_n 2, 1) := by decide +kernel
theorem dL_law_1393 : decode cL_law 1393 = .ok (.invokevirtual 103, 3) := by decide +kernel
theorem dL_law_1396 : decode cL_law 1396 = .ok (.iload 5, 2) := by decide +kernel
theorem dL_law_1398 : decode cL_law 1398 = .ok (.if_icmp .eq 5, 3) := by decide +kernel
theorem dL_law_1401 : decode cL_law 1401 = .ok (.iconst 0, 1) := by decide +kernel
theorem dL_law_1402 : decode cL_law 1402 = .ok (.ireturn, 1) := by decide +kernel
theorem dL_law_1403 : decode cL_law 1403 = .ok (.iload 5, 2) := by decide +kernel
theorem dL_law_1405 : decode cL_law 1405 = .ok (.ifCond .ne 15, 3) := by decide +kernel
theorem dL_law_1408 : decode cL_law 1408 = .ok (.aload_n 3, 1) := by decide +kernel
theorem dL_law_1409 : decode cL_law 1409 = .ok (.iconst 0, 1) := by decide +kernel
theorem dL_law_1410 : decode cL_law 1410 = .ok (.laload, 1) := by decide +kernel
theorem dL_law_1411 : decode cL_law 1411 = .ok (.iload 6, 2) := by decide +kernel
theorem dL_law_1413 : decode cL_law 1413 = .ok (.i2l, 1) := by decide +kernel
theorem dL_law_1414 : decode cL_law 1414 = .ok (.lcmp, 1) := by decide +kernel
theorem dL_law_1415 : decode cL_law 1415 = .ok (.ifCond .eq 5, 3) := by decide +kernel
theorem dL_law_1418 : decode cL_law 1418 = .ok (.iconst 0, 1) := by decide +kernel
theorem dL_law_1419 : decode cL_law 1419 = .ok (.ireturn, 1) := by decide +kernel
theorem dL_law_1420 : decode cL_law 1420 = .ok (.goto 403, 3) := by decide +kernel
theorem dL_law_1423 : decode cL_law 1423 = .ok (.aload_n 1, 1) := by decide +kernel
theorem dL_law_1424 : decode cL_law 1424 = .ok (.aload_n 0, 1) := by decide +kernel
theorem dL_law_1425 : decode cL_law 1425 = .ok (.iload 4, 2) := by decide +kernel
theorem dL_law_1427 : decode cL_law 1427 = .ok (.iconst 1, 1) := by decide +kernel
theorem dL_law_1428 : decode cL_law 1428 = .ok (.iadd, 1) := by decide +kernel
theorem dL_law_1429 : decode cL_law 1429 = .ok (.iaload, 1) := by decide +kernel
theorem dL_law_1430 : decode cL_law 1430 = .ok (.aload_n 0, 1) := by decide +kernel
theorem dL_law_1431 : decode cL_law 1431 = .ok (.iload 4, 2) := by decide +kernel
theorem dL_law_1433 : decode cL_law 1433 = .ok (.iconst 2, 1) := by decide +kernel
theorem dL_law_1434 : decode cL_law 1434 = .ok (.iadd, 1) := by decide +kernel
theorem dL_law_1435 : decode cL_law 1435 = .ok (.iaload, 1) := by decide +kernel
theorem dL_law_1436 : decode cL_law 1436 = .ok (.aload_n 3, 1) := by decide +kernel
theorem dL_law_1437 : decode cL_law 1437 = .ok (.invokestatic 160, 3) := by decide +kernel
theorem dL_law_1440 : decode cL_law 1440 = .ok (.istore 5, 2) := by decide +kernel
theorem dL_law_1442 : decode cL_law 1442 = .ok (.aload_n 2, 1) := by decide +kernel
theorem dL_law_1443 : decode cL_law 1443 = .ok (.aload_n 0, 1) := by decide +kernel
theorem dL_law_1444 : decode cL_law 1444 = .ok (.iload 4, 2) := by decide +kernel
theorem dL_law_1446 : decode cL_law 1446 = .ok (.iconst 1, 1) := by decide +kernel
theorem dL_law_1447 : decode cL_law 1447 = .ok (.iadd, 1) := by decide +kernel
theorem dL_law_1448 : decode cL_law 1448 = .ok (.iaload, 1) := by decide +kernel
theorem dL_law_1449 : decode cL_law 1449 = .ok (.aload_n 0, 1) := by decide +kernel
theorem dL_law_1450 : decode cL_law 1450 = .ok (.iload 4, 2) := by decide +kernel
theorem dL_law_1452 : decode cL_law 1452 = .ok (.iconst 2, 1) := by decide +kernel
theorem dL_law_1453 : decode cL_law 1453 = .ok (.iadd, 1) := by decide +kernel
theorem dL_law_1454 : decode cL_law 1454 = .ok (.iaload, 1) := by decide +kernel
theorem dL_law_1455 : decode cL_law 1455 = .ok (.invokevirtual 162, 3) := by decide +kernel
theorem dL_law_1458 : decode cL_law 1458 = .ok (.istore 6, 2) := by decide +kernel
theorem dL_law_1460 : decode cL_law 1460 = .ok (.aload_n 2, 1) := by decide +kernel
theorem dL_law_1461 : decode cL_law 1461 = .ok (.invokevirtual 103, 3) := by decide +kernel
theorem dL_law_1464 : decode cL_law 1464 = .ok (.iload 5, 2) := by decide +kernel
theorem dL_law_1466 : decode cL_law 1466 = .ok (.if_icmp .eq 5, 3) := by decide +kernel
theorem dL_law_1469 : decode cL_law 1469 = .ok (.iconst 0, 1) := by decide +kernel
theorem dL_law_1470 : decode cL_law 1470 = .ok (.ireturn, 1) := by decide +kernel
theorem dL_law_1471 : decode cL_law 1471 = .ok (.iload 5, 2) := by decide +kernel
theorem dL_law_1473 : decode cL_law 1473 = .ok (.ifCond .ne 15, 3) := by decide +kernel
theorem dL_law_1476 : decode cL_law 1476 = .ok (.aload_n 3, 1) := by decide +kernel
theorem dL_law_1477 : decode cL_law 1477 = .ok (.iconst 0, 1) := by decide +kernel
theorem dL_law_1478 : decode cL_law 1478 = .ok (.laload, 1) := by decide +kernel
theorem dL_law_1479 : decode cL_law 1479 = .ok (.iload 6, 2) := by decide +kernel
theorem dL_law_1481 : decode cL_law 1481 = .ok (.i2l, 1) := by decide +kernel
theorem dL_law_1482 : decode cL_law 1482 = .ok (.lcmp, 1) := by decide +kernel
theorem dL_law_1483 : decode cL_law 1483 = .ok (.ifCond .eq 5, 3) := by decide +kernel
theorem dL_law_1486 : decode cL_law 1486 = .ok (.iconst 0, 1) := by decide +kernel
theorem dL_law_1487 : decode cL_law 1487 = .ok (.ireturn, 1) := by decide +kernel
theorem dL_law_1488 : decode cL_law 1488 = .ok (.goto 335, 3) := by decide +kernel
theorem dL_law_1491 : decode cL_law 1491 = .ok (.aload_n 1, 1) := by decide +kernel
theorem dL_law_1492 : decode cL_law 1492 = .ok (.aload_n 0, 1) := by decide +kernel
theorem dL_law_1493 : decode cL_law 1493 = .ok (.iload 4, 2) := by decide +kernel
theorem dL_law_1495 : decode cL_law 1495 = .ok (.iconst 1, 1) := by decide +kernel
theorem dL_law_1496 : decode cL_law 1496 = .ok (.iadd, 1) := by decide +kernel
theorem dL_law_1497 : decode cL_law 1497 = .ok (.iaload, 1) := by decide +kernel
theorem dL_law_1498 : decode cL_law 1498 = .ok (.aload_n 0, 1) := by decide +kernel
theorem dL_law_1499 : decode cL_law 1499 = .ok (.iload 4, 2) := by decide +kernel
theorem dL_law_1501 : decode cL_law 1501 = .ok (.iconst 2, 1) := by decide +kernel
theorem dL_law_1502 : decode cL_law 1502 = .ok (.iadd, 1) := by decide +kernel
theorem dL_law_1503 : decode cL_law 1503 = .ok (.iaload, 1) := by decide +kernel
theorem dL_law_1504 : decode cL_law 1504 = .ok (.aload_n 0, 1) := by decide +kernel
theorem dL_law_1505 : decode cL_law 1505 = .ok (.iload 4, 2) := by decide +kernel
theorem dL_law_1507 : decode cL_law 1507 = .ok (.iconst 3, 1) := by decide +kernel
theorem dL_law_1508 : decode cL_law 1508 = .ok (.iadd, 1) := by decide +kernel
theorem dL_law_1509 : decode cL_law 1509 = .ok (.iaload, 1) := by decide +kernel
theorem dL_law_1510 : decode cL_law 1510 = .ok (.ifCond .eq 7, 3) := by decide +kernel
theorem dL_law_1513 : decode cL_law 1513 = .ok (.iconst 1, 1) := by decide +kernel
theorem dL_law_1514 : decode cL_law 1514 = .ok (.goto 4, 3) := by decide +kernel
theorem dL_law_1517 : decode cL_law 1517 = .ok (.iconst 0, 1) := by decide +kernel
theorem dL_law_1518 : decode cL_law 1518 = .ok (.aload_n 3, 1) := by decide +kernel
theorem dL_law_1519 : decode cL_law 1519 = .ok (.invokestatic 163, 3) := by decide +kernel
theorem dL_law_1522 : decode cL_law 1522 = .ok (.istore 5, 2) := by decide +kernel
theorem dL_law_1524 : decode cL_law 1524 = .ok (.aload_n 2, 1) := by decide +kernel
theorem dL_law_1525 : decode cL_law 1525 = .ok (.aload_n 0, 1) := by decide +kernel
theorem dL_law_1526 : decode cL_law 1526 = .ok (.iload 4, 2) := by decide +kernel
theorem dL_law_1528 : decode cL_law 1528 = .ok (.iconst 1, 1) := by decide +kernel
theorem dL_law_1529 : decode cL_law 1529 = .ok (.iadd, 1) := by decide +kernel
theorem dL_law_1530 : decode cL_law 1530 = .ok (.iaload, 1) := by decide +kernel
theorem dL_law_1531 : decode cL_law 1531 = .ok (.aload_n 0, 1) := by decide +kernel
theorem dL_law_1532 : decode cL_law 1532 = .ok (.iload 4, 2) := by decide +kernel
theorem dL_law_1534 : decode cL_law 1534 = .ok (.iconst 2, 1) := by decide +kernel
theorem dL_law_1535 : decode cL_law 1535 = .ok (.iadd, 1) := by decide +kernel
theorem dL_law_1536 : decode cL_law 1536 = .ok (.iaload, 1) := by decide +kernel
theorem dL_law_1537 : decode cL_law 1537 = .ok (.aload_n 0, 1) := by decide +kernel
theorem dL_law_1538 : decode cL_law 1538 = .ok (.iload 4, 2) := by decide +kernel
theorem dL_law_1540 : decode cL_law 1540 = .ok (.iconst 3, 1) := by decide +kernel
theorem dL_law_1541 : decode cL_law 1541 = .ok (.iadd, 1) := by decide +kernel
theorem dL_law_1542 : decode cL_law 1542 = .ok (.iaload, 1) := by decide +kernel
theorem dL_law_1543 : decode cL_law 1543 = .ok (.ifCond .eq 7, 3) := by decide +kernel
theorem dL_law_1546 : decode cL_law 1546 = .ok (.iconst 1, 1) := by decide +kernel
theorem dL_law_1547 : decode cL_law 1547 = .ok (.goto 4, 3) := by decide +kernel
theorem dL_law_1550 : decode cL_law 1550 = .ok (.iconst 0, 1) := by decide +kernel
theorem dL_law_1551 : decode cL_law 1551 = .ok (.invokevirtual 166, 3) := by decide +kernel
theorem dL_law_1554 : decode cL_law 1554 = .ok (.istore 6, 2) := by decide +kernel
theorem dL_law_1556 : decode cL_law 1556 = .ok (.aload_n 2, 1) := by decide +kernel
theorem dL_law_1557 : decode cL_law 1557 = .ok (.invokevirtual 103, 3) := by decide +kernel
theorem dL_law_1560 : decode cL_law 1560 = .ok (.iload 5, 2) := by decide +kernel
theorem dL_law_1562 : decode cL_law 1562 = .ok (.if_icmp .eq 5, 3) := by decide +kernel
theorem dL_law_1565 : decode cL_law 1565 = .ok (.iconst 0, 1) := by decide +kernel
theorem dL_law_1566 : decode cL_law 1566 = .ok (.ireturn, 1) := by decide +kernel
theorem dL_law_1567 : decode cL_law 1567 = .ok (.iload 5, 2) := by decide +kernel
theorem dL_law_1569 : decode cL_law 1569 = .ok (.ifCond .ne 15, 3) := by decide +kernel
theorem dL_law_1572 : decode cL_law 1572 = .ok (.aload_n 3, 1) := by decide +kernel
theorem dL_law_1573 : decode cL_law 1573 = .ok (.iconst 0, 1) := by decide +kernel
theorem dL_law_1574 : decode cL_law 1574 = .ok (.laload, 1) := by decide +kernel
theorem dL_law_1575 : decode cL_law 1575 = .ok (.iload 6, 2) := by decide +kernel
theorem dL_law_1577 : decode cL_law 1577 = .ok (.i2l, 1) := by decide +kernel
theorem dL_law_1578 : decode cL_law 1578 = .ok (.lcmp, 1) := by decide +kernel
theorem dL_law_1579 : decode cL_law 1579 = .ok (.ifCond .eq 5, 3) := by decide +kernel
theorem dL_law_1582 : decode cL_law 1582 = .ok (.iconst 0, 1) := by decide +kernel
theorem dL_law_1583 : decode cL_law 1583 = .ok (.ireturn, 1) := by decide +kernel
theorem dL_law_1584 : decode cL_law 1584 = .ok (.goto 239, 3) := by decide +kernel
theorem dL_law_1587 : decode cL_law 1587 = .ok (.aload_n 1, 1) := by decide +kernel
theorem dL_law_1588 : decode cL_law 1588 = .ok (.aload_n 0, 1) := by decide +kernel
theorem dL_law_1589 : decode cL_law 1589 = .ok (.iload 4, 2) := by decide +kernel
theorem dL_law_1591 : decode cL_law 1591 = .ok (.iconst 1, 1) := by decide +kernel
theorem dL_law_1592 : decode cL_law 1592 = .ok (.iadd, 1) := by decide +kernel
theorem dL_law_1593 : decode cL_law 1593 = .ok (.iaload, 1) := by decide +kernel
theorem dL_law_1594 : decode cL_law 1594 = .ok (.aload_n 0, 1) := by decide +kernel
theorem dL_law_1595 : decode cL_law 1595 = .ok (.iload 4, 2) := by decide +kernel
theorem dL_law_1597 : decode cL_law 1597 = .ok (.iconst 2, 1) := by decide +kernel
theorem dL_law_1598 : decode cL_law 1598 = .ok (.iadd, 1) := by decide +kernel
theorem dL_law_1599 : decode cL_law 1599 = .ok (.iaload, 1) := by decide +kernel
theorem dL_law_1600 : decode cL_law 1600 = .ok (.aload_n 3, 1) := by decide +kernel
theorem dL_law_1601 : decode cL_law 1601 = .ok (.invokestatic 167, 3) := by decide +kernel
theorem dL_law_1604 : decode cL_law 1604 = .ok (.istore 5, 2) := by decide +kernel
theorem dL_law_1606 : decode cL_law 1606 = .ok (.aload_n 2, 1) := by decide +kernel
theorem dL_law_1607 : decode cL_law 1607 = .ok (.aload_n 0, 1) := by decide +kernel
theorem dL_law_1608 : decode cL_law 1608 = .ok (.iload 4, 2) := by decide +kernel
theorem dL_law_1610 : decode cL_law 1610 = .ok (.iconst 1, 1) := by decide +kernel
theorem dL_law_1611 : decode cL_law 1611 = .ok (.iadd, 1) := by decide +kernel
theorem dL_law_1612 : decode cL_law 1612 = .ok (.iaload, 1) := by decide +kernel
theorem dL_law_1613 : decode cL_law 1613 = .ok (.aload_n 0, 1) := by decide +kernel
theorem dL_law_1614 : decode cL_law 1614 = .ok (.iload 4, 2) := by decide +kernel
theorem dL_law_1616 : decode cL_law 1616 = .ok (.iconst 2, 1) := by decide +kernel
theorem dL_law_1617 : decode cL_law 1617 = .ok (.iadd, 1) := by decide +kernel
theorem dL_law_1618 : decode cL_law 1618 = .ok (.iaload, 1) := by decide +kernel
theorem dL_law_1619 : decode cL_law 1619 = .ok (.invokevirtual 169, 3) := by decide +kernel
theorem dL_law_1622 : decode cL_law 1622 = .ok (.istore 6, 2) := by decide +kernel
theorem dL_law_1624 : decode cL_law 1624 = .ok (.aload_n 2, 1) := by decide +kernel
theorem dL_law_1625 : decode cL_law 1625 = .ok (.invokevirtual 103, 3) := by decide +kernel
theorem dL_law_1628 : decode cL_law 1628 = .ok (.iload 5, 2) := by decide +kernel
theorem dL_law_1630 : decode cL_law 1630 = .ok (.if_icmp .eq 5, 3) := by decide +kernel
theorem dL_law_1633 : decode cL_law 1633 = .ok (.iconst 0, 1) := by decide +kernel
theorem dL_law_1634 : decode cL_law 1634 = .ok (.ireturn, 1) := by decide +kernel
theorem dL_law_1635 : decode cL_law 1635 = .ok (.iload 5, 2) := by decide +kernel
theorem dL_law_1637 : decode cL_law 1637 = .ok (.ifCond .ne 15, 3) := by decide +kernel
theorem dL_law_1640 : decode cL_law 1640 = .ok (.aload_n 3, 1) := by decide +kernel
theorem dL_law_1641 : decode cL_law 1641 = .ok (.iconst 0, 1) := by decide +kernel
theorem dL_law_1642 : decode cL_law 1642 = .ok (.laload, 1) := by decide +kernel
theorem dL_law_1643 : decode cL_law 1643 = .ok (.iload 6, 2) := by decide +kernel
theorem dL_law_1645 : decode cL_law 1645 = .ok (.i2l, 1) := by decide +kernel
theorem dL_law_1646 : decode cL_law 1646 = .ok (.lcmp, 1) := by decide +kernel
theorem dL_law_1647 : decode cL_law 1647 = .ok (.ifCond .eq 5, 3) := by decide +kernel
theorem dL_law_1650 : decode cL_law 1650 = .ok (.iconst 0, 1) := by decide +kernel
theorem dL_law_1651 : decode cL_law 1651 = .ok (.ireturn, 1) := by decide +kernel
theorem dL_law_1652 : decode cL_law 1652 = .ok (.goto 171, 3) := by decide +kernel
theorem dL_law_1655 : decode cL_law 1655 = .ok (.aload_n 1, 1) := by decide +kernel
theorem dL_law_1656 : decode cL_law 1656 = .ok (.aload_n 0, 1) := by decide +kernel
theorem dL_law_1657 : decode cL_law 1657 = .ok (.iload 4, 2) := by decide +kernel
theorem dL_law_1659 : decode cL_law 1659 = .ok (.iconst 1, 1) := by decide +kernel
theorem dL_law_1660 : decode cL_law 1660 = .ok (.iadd, 1) := by decide +kernel
theorem dL_law_1661 : decode cL_law 1661 = .ok (.iaload, 1) := by decide +kernel
theorem dL_law_1662 : decode cL_law 1662 = .ok (.aload_n 3, 1) := by decide +kernel
theorem dL_law_1663 : decode cL_law 1663 = .ok (.invokestatic 170, 3) := by decide +kernel
theorem dL_law_1666 : decode cL_law 1666 = .ok (.istore 5, 2) := by decide +kernel
theorem dL_law_1668 : decode cL_law 1668 = .ok (.aload_n 2, 1) := by decide +kernel
theorem dL_law_1669 : decode cL_law 1669 = .ok (.aload_n 0, 1) := by decide +kernel
theorem dL_law_1670 : decode cL_law 1670 = .ok (.iload 4, 2) := by decide +kernel
theorem dL_law_1672 : decode cL_law 1672 = .ok (.iconst 1, 1) := by decide +kernel
theorem dL_law_1673 : decode cL_law 1673 = .ok (.iadd, 1) := by decide +kernel
theorem dL_law_1674 : decode cL_law 1674 = .ok (.iaload, 1) := by decide +kernel
theorem dL_law_1675 : decode cL_law 1675 = .ok (.invokevirtual 172, 3) := by decide +kernel
theorem dL_law_1678 : decode cL_law 1678 = .ok (.istore 6, 2) := by decide +kernel
theorem dL_law_1680 : decode cL_law 1680 = .ok (.aload_n 2, 1) := by decide +kernel
theorem dL_law_1681 : decode cL_law 1681 = .ok (.invokevirtual 103, 3) := by decide +kernel
theorem dL_law_1684 : decode cL_law 1684 = .ok (.iload 5, 2) := by decide +kernel
theorem dL_law_1686 : decode cL_law 1686 = .ok (.if_icmp .eq 5, 3) := by decide +kernel
theorem dL_law_1689 : decode cL_law 1689 = .ok (.iconst 0, 1) := by decide +kernel
theorem dL_law_1690 : decode cL_law 1690 = .ok (.ireturn, 1) := by decide +kernel
theorem dL_law_1691 : decode cL_law 1691 = .ok (.iload 5, 2) := by decide +kernel
theorem dL_law_1693 : decode cL_law 1693 = .ok (.ifCond .ne 15, 3) := by decide +kernel
theorem dL_law_1696 : decode cL_law 1696 = .ok (.aload_n 3, 1) := by decide +kernel
theorem dL_law_1697 : decode cL_law 1697 = .ok (.iconst 0, 1) := by decide +kernel
theorem dL_law_1698 : decode cL_law 1698 = .ok (.laload, 1) := by decide +kernel
theorem dL_law_1699 : decode cL_law 1699 = .ok (.iload 6, 2) := by decide +kernel
theorem dL_law_1701 : decode cL_law 1701 = .ok (.i2l, 1) := by decide +kernel
theorem dL_law_1702 : decode cL_law 1702 = .ok (.lcmp, 1) := by decide +kernel
theorem dL_law_1703 : decode cL_law 1703 = .ok (.ifCond .eq 5, 3) := by decide +kernel
theorem dL_law_1706 : decode cL_law 1706 = .ok (.iconst 0, 1) := by decide +kernel
theorem dL_law_1707 : decode cL_law 1707 = .ok (.ireturn, 1) := by decide +kernel
theorem dL_law_1708 : decode cL_law 1708 = .ok (.goto 115, 3) := by decide +kernel
theorem dL_law_1711 : decode cL_law 1711 = .ok (.aload_n 1, 1) := by decide +kernel
theorem dL_law_1712 : decode cL_law 1712 = .ok (.aload_n 0, 1) := by decide +kernel
theorem dL_law_1713 : decode cL_law 1713 = .ok (.iload 4, 2) := by decide +kernel
theorem dL_law_1715 : decode cL_law 1715 = .ok (.iconst 1, 1) := by decide +kernel
theorem dL_law_1716 : decode cL_law 1716 = .ok (.iadd, 1) := by decide +kernel
theorem dL_law_1717 : decode cL_law 1717 = .ok (.iaload, 1) := by decide +kernel
theorem dL_law_1718 : decode cL_law 1718 = .ok (.aload_n 3, 1) := by decide +kernel
theorem dL_law_1719 : decode cL_law 1719 = .ok (.invokestatic 173, 3) := by decide +kernel
theorem dL_law_1722 : decode cL_law 1722 = .ok (.istore 5, 2) := by decide +kernel
theorem dL_law_1724 : decode cL_law 1724 = .ok (.aload_n 2, 1) := by decide +kernel
theorem dL_law_1725 : decode cL_law 1725 = .ok (.aload_n 0, 1) := by decide +kernel
theorem dL_law_1726 : decode cL_law 1726 = .ok (.iload 4, 2) := by decide +kernel
theorem dL_law_1728 : decode cL_law 1728 = .ok (.iconst 1, 1) := by decide +kernel
theorem dL_law_1729 : decode cL_law 1729 = .ok (.iadd, 1) := by decide +kernel
theorem dL_law_1730 : decode cL_law 1730 = .ok (.iaload, 1) := by decide +kernel
theorem dL_law_1731 : decode cL_law 1731 = .ok (.invokevirtual 175, 3) := by decide +kernel
theorem dL_law_1734 : decode cL_law 1734 = .ok (.istore 6, 2) := by decide +kernel
theorem dL_law_1736 : decode cL_law 1736 = .ok (.aload_n 2, 1) := by decide +kernel
theorem dL_law_1737 : decode cL_law 1737 = .ok (.invokevirtual 103, 3) := by decide +kernel
theorem dL_law_1740 : decode cL_law 1740 = .ok (.iload 5, 2) := by decide +kernel
theorem dL_law_1742 : decode cL_law 1742 = .ok (.if_icmp .eq 5, 3) := by decide +kernel
theorem dL_law_1745 : decode cL_law 1745 = .ok (.iconst 0, 1) := by decide +kernel
theorem dL_law_1746 : decode cL_law 1746 = .ok (.ireturn, 1) := by decide +kernel
theorem dL_law_1747 : decode cL_law 1747 = .ok (.iload 5, 2) := by decide +kernel
theorem dL_law_1749 : decode cL_law 1749 = .ok (.ifCond .ne 15, 3) := by decide +kernel
theorem dL_law_1752 : decode cL_law 1752 = .ok (.aload_n 3, 1) := by decide +kernel
theorem dL_law_1753 : decode cL_law 1753 = .ok (.iconst 0, 1) := by decide +kernel
theorem dL_law_1754 : decode cL_law 1754 = .ok (.laload, 1) := by decide +kernel
theorem dL_law_1755 : decode cL_law 1755 = .ok (.iload 6, 2) := by decide +kernel
theorem dL_law_1757 : decode cL_law 1757 = .ok (.i2l, 1) := by decide +kernel
theorem dL_law_1758 : decode cL_law 1758 = .ok (.lcmp, 1) := by decide +kernel
theorem dL_law_1759 : decode cL_law 1759 = .ok (.ifCond .eq 5, 3) := by decide +kernel
theorem dL_law_1762 : decode cL_law 1762 = .ok (.iconst 0, 1) := by decide +kernel
theorem dL_law_1763 : decode cL_law 1763 = .ok (.ireturn, 1) := by decide +kernel
theorem dL_law_1764 : decode cL_law 1764 = .ok (.goto 59, 3) := by decide +kernel
theorem dL_law_1767 : decode cL_law 1767 = .ok (.aload_n 1, 1) := by decide +kernel
theorem dL_law_1768 : decode cL_law 1768 = .ok (.aload_n 0, 1) := by decide +kernel
theorem dL_law_1769 : decode cL_law 1769 = .ok (.iload 4, 2) := by decide +kernel
theorem dL_law_1771 : decode cL_law 1771 = .ok (.iconst 1, 1) := by decide +kernel
theorem dL_law_1772 : decode cL_law 1772 = .ok (.iadd, 1) := by decide +kernel
theorem dL_law_1773 : decode cL_law 1773 = .ok (.iaload, 1) := by decide +kernel
theorem dL_law_1774 : decode cL_law 1774 = .ok (.aload_n 3, 1) := by decide +kernel
theorem dL_law_1775 : decode cL_law 1775 = .ok (.invokestatic 176, 3) := by decide +kernel
theorem dL_law_1778 : decode cL_law 1778 = .ok (.istore 5, 2) := by decide +kernel
theorem dL_law_1780 : decode cL_law 1780 = .ok (.aload_n 2, 1) := by decide +kernel
theorem dL_law_1781 : decode cL_law 1781 = .ok (.aload_n 0, 1) := by decide +kernel
theorem dL_law_1782 : decode cL_law 1782 = .ok (.iload 4, 2) := by decide +kernel
theorem dL_law_1784 : decode cL_law 1784 = .ok (.iconst 1, 1) := by decide +kernel
theorem dL_law_1785 : decode cL_law 1785 = .ok (.iadd, 1) := by decide +kernel
theorem dL_law_1786 : decode cL_law 1786 = .ok (.iaload, 1) := by decide +kernel
theorem dL_law_1787 : decode cL_law 1787 = .ok (.invokevirtual 178, 3) := by decide +kernel
theorem dL_law_1790 : decode cL_law 1790 = .ok (.istore 6, 2) := by decide +kernel
theorem dL_law_1792 : decode cL_law 1792 = .ok (.aload_n 2, 1) := by decide +kernel
theorem dL_law_1793 : decode cL_law 1793 = .ok (.invokevirtual 103, 3) := by decide +kernel
theorem dL_law_1796 : decode cL_law 1796 = .ok (.iload 5, 2) := by decide +kernel
theorem dL_law_1798 : decode cL_law 1798 = .ok (.if_icmp .eq 5, 3) := by decide +kernel
theorem dL_law_1801 : decode cL_law 1801 = .ok (.iconst 0, 1) := by decide +kernel
theorem dL_law_1802 : decode cL_law 1802 = .ok (.ireturn, 1) := by decide +kernel
theorem dL_law_1803 : decode cL_law 1803 = .ok (.iload 5, 2) := by decide +kernel
theorem dL_law_1805 : decode cL_law 1805 = .ok (.ifCond .ne 15, 3) := by decide +kernel
theorem dL_law_1808 : decode cL_law 1808 = .ok (.aload_n 3, 1) := by decide +kernel
theorem dL_law_1809 : decode cL_law 1809 = .ok (.iconst 0, 1) := by decide +kernel
theorem dL_law_1810 : decode cL_law 1810 = .ok (.laload, 1) := by decide +kernel
theorem dL_law_1811 : decode cL_law 1811 = .ok (.iload 6, 2) := by decide +kernel
theorem dL_law_1813 : decode cL_law 1813 = .ok (.i2l, 1) := by decide +kernel
theorem dL_law_1814 : decode cL_law 1814 = .ok (.lcmp, 1) := by decide +kernel
theorem dL_law_1815 : decode cL_law 1815 = .ok (.ifCond .eq 5, 3) := by decide +kernel
theorem dL_law_1818 : decode cL_law 1818 = .ok (.iconst 0, 1) := by decide +kernel
theorem dL_law_1819 : decode cL_law 1819 = .ok (.ireturn, 1) := by decide +kernel
theorem dL_law_1820 : decode cL_law 1820 = .ok (.goto 3, 3) := by decide +kernel
theorem dL_law_1823 : decode cL_law 1823 = .ok (.iinc 4 6, 3) := by decide +kernel
theorem dL_law_1826 : decode cL_law 1826 = .ok (.goto (-1803), 3) := by decide +kernel
theorem dL_law_1829 : decode cL_law 1829 = .ok (.iconst 1, 1) := by decide +kernel
theorem dL_law_1830 : decode cL_law 1830 = .ok (.ireturn, 1) := by decide +kernel
end
section
/-! ===== BEGIN words of one list among another's, by their places ===== -/
theorem goodIn_r {big : List Cond} (ws : List Cond) (ps : List Nat) (hp : ws = ps.filterMap (fun i => big[i]?)) (h : ws.all goodWord = true) : GoodIn big ws := by
  intro w hw
  have h1 := List.all_eq_true.mp h w hw
  rw [hp] at hw
  obtain ⟨i, -, hi⟩ := List.mem_filterMap.mp hw
  have hm : w ∈ big := by first | exact List.mem_of_getElem? hi | exact List.getElem?_mem hi
  exact ⟨hm, good_of_word h1⟩
theorem goodIn_app {big a b : List Cond} (ha : GoodIn big a) (hb : GoodIn big b) : GoodIn big (a ++ b) := fun w h => (List.mem_append.mp h).elim (ha w) (hb w)
theorem goodIn_ca {big a b : List Cond} {c : Cond} (ha : GoodIn big (c :: a)) (hb : GoodIn big b) : GoodIn big (c :: (a ++ b)) := fun w h => (List.mem_cons.mp h).elim (fun e => ha w (List.mem_cons.mpr (Or.inl e))) (fun h => (List.mem_append.mp h).elim (fun h => ha w (List.mem_cons.mpr (Or.inr h))) (hb w))
theorem goodIn_sub {big ws : List Cond} (hm : ∀ w ∈ ws, w ∈ big) (h : ws.all goodWord = true) : GoodIn big ws := fun w hw => ⟨hm w hw, good_of_word (List.all_eq_true.mp h w hw)⟩
/-! ===== END ===== -/

/-! ===== BEGIN exceptions that leave a method, and their catching by the caller (launches without stack traces) ===== -/
section VXA
/-! The laws vx_back, vx_callV, vx_callS, vx_callSW, vx_throw0, vx_throwS follow proofs of the library, with one case more: JvmDerived/Free/Laws.lean (Back.of_free), Shelf42/LK1.lean (callV, callS), Shelf/KitTraced.lean (throwNew0V, throwNewS). -/
/-- where a method has thrown q: the class by its name, the cell, what was written, the world -/
def vx_T (XC : String → State → State → Prop) (st : State) (q : Addr) (t : State) (mc ms : Nat) (free : Addr → Prop) : Prop :=
  ∃ (E : String) (ce : Cell) (L : List Loc), XC E st t ∧ t.heap[q]? = some ce ∧ ce.vm = .none ∧ st.vm.findClass E = some ce.cls ∧ st.WarmedH t.vm ∧ st.sameButNew ({ t with vm := st.vm } : State) L mc ms ∧ ∀ z ∈ L, free z.base
def vx_Q (Qc : Array Value → State → Outcome → State → Prop) (XC : String → State → State → Prop) (mc ms : Nat) (free : Addr → Prop) : Array Value → State → Outcome → State → Prop := fun a st o t =>
  (Qc a st o t ∧ ∃ L, FrameEnd st o t L mc ms ∧ ∀ q ∈ L, free q.base) ∨ ∃ q, o = .threw q ∧ vx_T XC st q t mc ms free
/-- a callee that returns or throws -/
def vx_Met (l : Launch) (y : MethodName) (ws : List Cond) (rm : Room) (Pc : Array Value → State → Prop) (Qc : Array Value → State → Outcome → State → Prop) (XC : String → State → State → Prop) (mc ms : Nat) (free : Addr → Prop) : Prop :=
  MetFree l y (headSpec ws rm) Pc (fun _ _ _ _ _ => True) (vx_Q Qc XC mc ms free)
def vx_Post (XC : String → State → State → Prop) (mc ms : Nat) (free : Addr → Prop) : Pt → Array Value → Addr → Pt → Prop := fun A a q B =>
  ∃ (g : JFrame) (mk : MethodId) (t : State) (L : List Loc) (E : String) (ce : Cell), B.U.heap = t.heap ∧ B.U.vm = t.vm ∧ XC E (A.U.calling g mk a) t ∧ t.heap[q]? = some ce ∧ ce.vm = .none ∧ A.U.vm.findClass E = some ce.cls ∧ B.locs = A.locs ++ L ∧ (∀ z ∈ L, free z.base) ∧ B.cells = A.cells + mc ∧ B.slots = A.slots + ms
def vx_Back (l : Launch) (R : Room) (p : Program) (e : Env) (below : List Frame) (s : State) (sargs : Array Value) (y : MethodName) (len W9 : Nat)
    (Pre : Pt → Array Value → Prop) (Post : Pt → Array Value → Option Value → Pt → Prop) (PostX : Pt → Array Value → Addr → Pt → Prop) : Prop :=
  ∀ (m : MethodId) (meth : Method) (c : Code) (A : Pt) (g : JFrame) (ig : Instr) (mk : MethodId) (a : Array Value),
    Stand p l e R s m sargs below meth c A.U A.locs A.cells A.slots → g.method = m → g.locals.size = c.maxLocals → decode c.code g.pc = .ok (ig, len) →
    2 * g.monitorRoom + (g.stack.map fun v => v.category).sum ≤ W9 → A.U.methodNamed? y = some mk → Pre A a →
    (∃ (v : Option Value) (B : Pt), Stand p l e R s m sargs below meth c B.U B.locs B.cells B.slots ∧ Post A a v B ∧
      Steps p.tables e below (doInvoke e (A.U.setTop g) [] mk a).1 (B.U.setTop { g with pc := g.pc + len, stack := v.toList ++ g.stack })) ∨
    (∃ (q : Addr) (B : Pt), Stand p l e R s m sargs below meth c B.U B.locs B.cells B.slots ∧ PostX A a q B ∧
      Steps p.tables e below (doInvoke e (A.U.setTop g) [] mk a).1 ((B.U.setTop g).pushFrame (.throwing q)))
section Payer
variable {l : Launch} {R : Room} {p : Program} {e : Env} {below : List Frame} {s : State} {sargs : Array Value} {y : MethodName} {len W9 : Nat}
theorem vx_back {ws : List Cond} {rm : Room} {Pc : Array Value → State → Prop} {Qc : Array Value → State → Outcome → State → Prop} {XC : String → State → State → Prop} {mc ms : Nat} {free : Addr → Prop} {bytes : ByteArray} {maxL : Nat} {ret : Option FieldType}
    (hM : vx_Met l y ws rm Pc Qc XC mc ms free) (hblind : FrameBlind Pc) (hrc : rm.cells = mc) (hrs : rm.slots = ms)
    (hframes : rm.frames + 1 ≤ R.frames) (hlocals : W9 + (maxL + 11) + rm.locals ≤ R.locals)
    (hws : ∀ w ∈ ws, ∀ a' U, s.WarmedH U.vm → w.before a' U = true) (hcode : Cond.code y bytes maxL ret ∈ ws) (hinit : ∀ a' U, s.WarmedH U.vm → (Cond.initialized y.cls).before a' U = true) :
    vx_Back l R p e below s sargs y len W9 (PreOf R mc ms Pc) (PostOf Qc mc ms free) (vx_Post XC mc ms free) := by
  intro m meth c A g ig mk a X hg hsize hdg hW hn hp
  have h1 : (headSpec ws rm).pre.before a A.U = true := atoms_intro fun w hw => hws w hw _ _ X.warmed
  have h2 : (Cond.code y bytes maxL ret).before a A.U = true := hws _ hcode _ _ X.warmed
  have h3 : (Cond.initialized y.cls).before a A.U = true := hinit _ _ X.warmed
  have h4 : A.cells + (headSpec ws rm).room.cells ≤ R.cells := by rw [show (headSpec ws rm).room.cells = mc from hrc]; exact hp.1
  have h5 : A.slots + (headSpec ws rm).room.slots ≤ R.slots := by rw [show (headSpec ws rm).room.slots = ms from hrs]; exact hp.2.1
  have hPc : Pc a (A.U.calling g mk a) := hblind _ _ _ _ hp.2.2
  obtain ⟨U, Ls, c0, s0⟩ := A
  dsimp only [Pt.U, Pt.locs, Pt.cells, Pt.slots] at h1 h2 h3 h4 h5 X hn hPc ⊢
  obtain ⟨methY, cY, hmY, hcY, -, hlY, -, -, -, -⟩ := Cond.code_spec hn h2
  obtain ⟨kY, hkY, -⟩ := className_of_methodNamed hn
  have hinitY : kY.init = .initialized := Cond.initialized_spec (findClass_of_methodNamed hn) hkY h3
  have h : At U g.method c below := by rw [hg]; exact X.here
  have hlocals9 : W9 + (maxL + 11) + (headSpec ws rm).room.locals ≤ R.locals := hlocals
  have happ : (headSpec ws rm).appliesLoose y e.platform (U.calling g mk a) = true :=
    Spec.appliesLoose_calling (g := g) h hdg hn hkY hinitY
      (X.room_calling (g := g) (R' := (headSpec ws rm).room) hsize hmY hcY hframes (by rw [hlY]; omega) h4 h5) h1
  obtain ⟨mid, hmid⟩ := h.above
  have hfr : (U.setTop g).frames = (.java g :: mid) ++ below := by rw [State.frames_setTop' g h.top, hmid]; rfl
  obtain ⟨o, s₂, hsteps, -, hend, hq⟩ := Steps.callFree hM p X.admits X.cas X.clock (acts := []) hfr happ hPc trivial
  have hq' : vx_Q Qc XC mc ms free a (U.calling g mk a) o s₂ := hq
  rw [State.frames_setTop' g h.top] at hend
  obtain ⟨g₀, hg0⟩ := Option.isSome_iff_exists.mp h.top
  obtain ⟨r, hr⟩ := State.topJava?_eq_some.mp hg0
  have hr' : (({ U with heap := s₂.heap, slotsUsed := s₂.slotsUsed } : State).setVm s₂.vm).frames = .java g₀ :: r := hr
  rcases hq' with ⟨hqc, L, hfe, hL⟩ | ⟨q, rfl, E, ce, L, hx, hce, hcv, hcl, hW₂, hsm, hL⟩
  · obtain ⟨⟨v, rfl⟩, hW₂, e2, q2, q3, q4, q5, q6⟩ := id hfe
    have e3 : s₂ = ({ (U.calling g mk a).setFrames s₂.frames with heap := s₂.heap, slotsUsed := s₂.slotsUsed } : State).setVm s₂.vm := by
      have : s₂ = ({ s₂ with vm := (U.calling g mk a).vm } : State).setVm s₂.vm := rfl
      rw [e2] at this
      exact this
    obtain ⟨c₂, i₂, len₂, hc₂, hd₂, hf₂⟩ := hend
    have hW' : U.WarmedH s₂.vm := hW₂
    have hcc : c₂ = c := by
      have h1 : s₂.code? g.method = U.code? g.method := by
        rw [State.code?_eq, State.code?_eq, hW'.alike.method?]
      exact Option.some.inj (hc₂.symm.trans (h1.trans h.code))
    subst hcc
    have hlen : len₂ = len := by rw [hdg] at hd₂; cases hd₂; rfl
    subst hlen
    have hs₂ : s₂ = (({ U with heap := s₂.heap, slotsUsed := s₂.slotsUsed } : State).setVm s₂.vm).setTop { g with pc := g.pc + len₂, stack := v.toList ++ g.stack } := by
      refine e3.trans ?_
      rw [hf₂, State.calling_eq h.top, State.setFrames_setFrames, State.setTop_of_frames _ hr', hr]
      rfl
    have hsame : U.sameButNew ({ U with heap := s₂.heap, slotsUsed := s₂.slotsUsed } : State) L mc ms := by
      refine ⟨?_, q2, q3, q4, q5, q6⟩
      obtain ⟨t, ht, -⟩ := State.frames_cons hr
      show ({ U with heap := s₂.heap, slotsUsed := s₂.slotsUsed } : State) = { U.setFrames U.frames with heap := s₂.heap, slotsUsed := s₂.slotsUsed }
      rw [State.setFrames_self ht]
    subst hg
    refine Or.inl ⟨v, ⟨(({ U with heap := s₂.heap, slotsUsed := s₂.slotsUsed } : State).setVm s₂.vm), Ls ++ L, c0 + mc, s0 + ms⟩,
      ⟨X.admits, X.cas, X.clock, X.frames, X.room, X.hears, X.method, X.code, (X.here.setHeapUsed s₂.heap s₂.slotsUsed).setVm hW'.alike, X.tail, State.WarmedH.trans X.warmed hW', X.limits, X.bytes, X.same.trans (hsame.setVm s.vm)⟩,
      ⟨g, mk, s₂, L, rfl, rfl, hqc, rfl, hL, rfl, rfl⟩, ?_⟩
    show Steps p.tables e below _ ((({ U with heap := s₂.heap, slotsUsed := s₂.slotsUsed } : State).setVm s₂.vm).setTop { g with pc := g.pc + len₂, stack := v.toList ++ g.stack })
    rw [← hs₂]
    exact hsteps
  · obtain ⟨e2, q2, q3, q4, q5, q6⟩ := id hsm
    have e3 : s₂ = ({ (U.calling g mk a).setFrames s₂.frames with heap := s₂.heap, slotsUsed := s₂.slotsUsed } : State).setVm s₂.vm := by
      have : s₂ = ({ s₂ with vm := (U.calling g mk a).vm } : State).setVm s₂.vm := rfl
      rw [e2] at this
      exact this
    have hf₂ : s₂.frames = .throwing q :: .java g :: U.frames.tail := hend
    have hW' : U.WarmedH s₂.vm := hW₂
    have hs₂ : s₂ = ((({ U with heap := s₂.heap, slotsUsed := s₂.slotsUsed } : State).setVm s₂.vm).setTop g).pushFrame (.throwing q) := by
      refine e3.trans ?_
      rw [hf₂, State.calling_eq h.top, State.setFrames_setFrames, State.pushFrame, State.frames_setTop _ hr', State.setTop_of_frames _ hr', State.setFrames_setFrames, hr]
      rfl
    have hsame : U.sameButNew ({ U with heap := s₂.heap, slotsUsed := s₂.slotsUsed } : State) L mc ms := by
      refine ⟨?_, q2, q3, q4, q5, q6⟩
      obtain ⟨t, ht, -⟩ := State.frames_cons hr
      show ({ U with heap := s₂.heap, slotsUsed := s₂.slotsUsed } : State) = { U.setFrames U.frames with heap := s₂.heap, slotsUsed := s₂.slotsUsed }
      rw [State.setFrames_self ht]
    subst hg
    refine Or.inr ⟨q, ⟨(({ U with heap := s₂.heap, slotsUsed := s₂.slotsUsed } : State).setVm s₂.vm), Ls ++ L, c0 + mc, s0 + ms⟩,
      ⟨X.admits, X.cas, X.clock, X.frames, X.room, X.hears, X.method, X.code, (X.here.setHeapUsed s₂.heap s₂.slotsUsed).setVm hW'.alike, X.tail, State.WarmedH.trans X.warmed hW', X.limits, X.bytes, X.same.trans (hsame.setVm s.vm)⟩,
      ⟨g, mk, s₂, L, E, ce, rfl, rfl, hx, hce, hcv, hcl, rfl, hL, rfl, rfl⟩, ?_⟩
    show Steps p.tables e below _ (((({ U with heap := s₂.heap, slotsUsed := s₂.slotsUsed } : State).setVm s₂.vm).setTop g).pushFrame (.throwing q))
    rw [← hs₂]
    exact hsteps
end Payer
section Calls
variable {p : Program} {l : Launch} {e : Env} {R : Room} {s : State} {m : MethodId} {args : Array Value} {below : List Frame} {meth : Method} {c : Code} {T : State} {locs : List Loc} {cells slots : Nat}
theorem vx_callV (X : Stand p l e R s m args below meth c T locs cells slots) (hexec : p.tables.exec = Jvm.exec) {own C : String} {index : Nat} {y : MethodName} {bytes : ByteArray} {maxL : Nat} {ret : Option FieldType}
    (hown : s.vm.findClass own = some m.cls) (hlink : (Cond.methodLink own index y).before args s = true) (hinst : (Cond.instanceMethod y).before args s = true) (hsel : (Cond.selects C y y).before args s = true)
    (hcode : (Cond.code y bytes maxL ret).before args s = true) (hy : y.cls ≠ "java/lang/invoke/MethodHandle" ∧ y.cls ≠ "java/lang/invoke/VarHandle")
    {W9 : Nat} {Pre : Pt → Array Value → Prop} {Post : Pt → Array Value → Option Value → Pt → Prop} {PostX : Pt → Array Value → Addr → Pt → Prop} (hK : vx_Back l R p e below s args y 3 W9 Pre Post PostX)
    {b : Addr} {cellB : Cell} (hcell : T.heap[b]? = some cellB) (hobj : cellB.vm.isStatics = false) (hcls : s.vm.findClass C = some cellB.cls)
    {g : JFrame} (hg : g.method = m) (hsize : g.locals.size = c.maxLocals) {argsL rest : List Value} (hlen : ∀ sig, parseMethodDescriptor y.desc = some sig → argsL.length = sig.parameters.length)
    (hstack : g.stack = argsL.reverse ++ .ref b :: rest) (hW : 2 * g.monitorRoom + (rest.map fun v => v.category).sum ≤ W9) (hdg : decode c.code g.pc = .ok (.invokevirtual index, 3))
    (hpre : ∀ vm₁, s.WarmedH vm₁ → Pre ⟨T.setVm vm₁, locs, cells, slots⟩ (Value.ref b :: argsL).toArray) :
    (∃ (v : Option Value) (vm₁ : Vm) (B : Pt), s.WarmedH vm₁ ∧ Stand p l e R s m args below meth c B.U B.locs B.cells B.slots ∧ Post ⟨T.setVm vm₁, locs, cells, slots⟩ (Value.ref b :: argsL).toArray v B ∧
      ∀ target, Steps p.tables e below (B.U.setTop { g with pc := g.pc + 3, stack := v.toList ++ rest }) target → Steps p.tables e below (T.setTop g) target) ∨
    (∃ (q : Addr) (vm₁ : Vm) (B : Pt), s.WarmedH vm₁ ∧ Stand p l e R s m args below meth c B.U B.locs B.cells B.slots ∧ PostX ⟨T.setVm vm₁, locs, cells, slots⟩ (Value.ref b :: argsL).toArray q B ∧
      Steps p.tables e below (T.setTop g) ((B.U.setTop { g with stack := rest }).pushFrame (.throwing q))) := by
  obtain ⟨mk, methM, hnamed, hmethM, hstM, habM⟩ := Cond.instanceMethod_spec hinst
  obtain ⟨methM', cM, hmethM', -, -, -, -, -, -, hsigM⟩ := Cond.code_spec hnamed hcode
  cases hmethM.symm.trans hmethM'
  obtain ⟨c2, r2, m2, q1, q2, q3, q4, kP, hkP, hkPi⟩ := Cond.selects_spec hsel
  cases hcls.symm.trans q1
  cases (State.methodFound?_of_named hnamed hy).symm.trans q2
  cases hnamed.symm.trans q3
  have hselP : selectMethod e.platform s.vm cellB.cls mk = .method mk := by rw [Launch.admits_selectMethod X.admits]; exact q4
  obtain ⟨vm₁, X₁, hstep₁⟩ := X.invokevirtual hexec hown hlink hnamed hmethM hstM hkP hkPi hy (a := b) (cell := cellB) hcell
    (fun z h => by rw [h] at hobj; cases hobj) hselP hmethM habM hkP hkPi (g := g) hg (argsL := argsL) (rest := rest) (hlen _ hsigM) hstack hdg
  rcases hK m meth c ⟨T.setVm vm₁, locs, cells, slots⟩ { g with stack := rest } (.invokevirtual index) mk (Value.ref b :: argsL).toArray X₁ hg hsize hdg hW (X₁.named hnamed) (hpre vm₁ X₁.warmed) with ⟨v, B, X', hpost, hsteps⟩ | ⟨q, B, X', hpost, hsteps⟩
  · exact Or.inl ⟨v, vm₁, B, X₁.warmed, X', hpost, fun target h => hstep₁ _ fun acts => by rw [doInvoke_state]; exact hsteps.trans h⟩
  · exact Or.inr ⟨q, vm₁, B, X₁.warmed, X', hpost, hstep₁ _ fun acts => by rw [doInvoke_state]; exact hsteps⟩
theorem vx_callS (X : Stand p l e R s m args below meth c T locs cells slots) (hexec : p.tables.exec = Jvm.exec) {own : String} {index : Nat} {y : MethodName} {bytes : ByteArray} {maxL : Nat} {ret : Option FieldType}
    (hown : s.vm.findClass own = some m.cls) (hlink : (Cond.methodLink own index y).before args s = true) (hstat : (Cond.static y).before args s = true) (hinit : (Cond.initialized y.cls).before args s = true)
    (hcode : (Cond.code y bytes maxL ret).before args s = true) (hy : y.cls ≠ "java/lang/invoke/MethodHandle" ∧ y.cls ≠ "java/lang/invoke/VarHandle")
    {W9 : Nat} {Pre : Pt → Array Value → Prop} {Post : Pt → Array Value → Option Value → Pt → Prop} {PostX : Pt → Array Value → Addr → Pt → Prop} (hK : vx_Back l R p e below s args y 3 W9 Pre Post PostX)
    {g : JFrame} (hg : g.method = m) (hsize : g.locals.size = c.maxLocals) {argsL rest : List Value} (hlen : ∀ sig, parseMethodDescriptor y.desc = some sig → argsL.length = sig.parameters.length)
    (hstack : g.stack = argsL.reverse ++ rest) (hW : 2 * g.monitorRoom + (rest.map fun v => v.category).sum ≤ W9) (hdg : decode c.code g.pc = .ok (.invokestatic index, 3))
    (hpre : ∀ vm₁, s.WarmedH vm₁ → Pre ⟨T.setVm vm₁, locs, cells, slots⟩ argsL.toArray) :
    (∃ (v : Option Value) (vm₁ : Vm) (B : Pt), s.WarmedH vm₁ ∧ Stand p l e R s m args below meth c B.U B.locs B.cells B.slots ∧ Post ⟨T.setVm vm₁, locs, cells, slots⟩ argsL.toArray v B ∧
      ∀ target, Steps p.tables e below (B.U.setTop { g with pc := g.pc + 3, stack := v.toList ++ rest }) target → Steps p.tables e below (T.setTop g) target) ∨
    (∃ (q : Addr) (vm₁ : Vm) (B : Pt), s.WarmedH vm₁ ∧ Stand p l e R s m args below meth c B.U B.locs B.cells B.slots ∧ PostX ⟨T.setVm vm₁, locs, cells, slots⟩ argsL.toArray q B ∧
      Steps p.tables e below (T.setTop g) ((B.U.setTop { g with stack := rest }).pushFrame (.throwing q))) := by
  obtain ⟨mk, hnamed⟩ := Cond.code_named hcode
  obtain ⟨methM, cM, hmethM, -, -, -, -, -, -, hsigM⟩ := Cond.code_spec hnamed hcode
  have hstatic : methM.isStatic = true := Cond.static_spec hnamed hmethM hstat
  obtain ⟨kP, hkP, -⟩ := className_of_methodNamed hnamed
  have hinitP : kP.init = .initialized := Cond.initialized_spec (findClass_of_methodNamed hnamed) hkP hinit
  obtain ⟨vm₁, X₁, hstep₁⟩ := X.invokestatic hexec hown hlink hnamed hmethM hstatic hkP hinitP hy (g := g) hg (argsL := argsL) (rest := rest) (hlen _ hsigM) hstack hdg
  rcases hK m meth c ⟨T.setVm vm₁, locs, cells, slots⟩ { g with stack := rest } (.invokestatic index) mk argsL.toArray X₁ hg hsize hdg hW (X₁.named hnamed) (hpre vm₁ X₁.warmed) with ⟨v, B, X', hpost, hsteps⟩ | ⟨q, B, X', hpost, hsteps⟩
  · exact Or.inl ⟨v, vm₁, B, X₁.warmed, X', hpost, fun target h => hstep₁ _ fun acts => by rw [doInvoke_state]; exact hsteps.trans h⟩
  · exact Or.inr ⟨q, vm₁, B, X₁.warmed, X', hpost, hstep₁ _ fun acts => by rw [doInvoke_state]; exact hsteps⟩
end Calls
theorem vx_cls {s : State} {T : State} {vm₁ : Vm} {E : String} {k : ClassId} (hW : s.WarmedH vm₁) (h : (T.setVm vm₁).vm.findClass E = some k) : s.vm.findClass E = some k := by
  have h1 : vm₁.findClass E = some k := h
  rw [hW.alike.findClass] at h1
  exact h1
/-- the method's frame g, with q thrown over it -/
def vx_W (p : Program) (l : Launch) (e : Env) (R : Room) (s : State) (m : MethodId) (args : Array Value) (below : List Frame) (meth : Method) (c : Code) (H : Heap) (locs : List Loc) (cells slots : Nat) (Q : State → Prop) (g : JFrame) (q : Addr) : Prop :=
  ∀ T : State, T.heap = H → Stand p l e R s m args below meth c T locs cells slots → ∃ t, Steps p.tables e below ((T.setTop g).pushFrame (.throwing q)) t ∧ Q t
def vx_Run (p : Program) (l : Launch) (e : Env) (R : Room) (s : State) (m : MethodId) (args : Array Value) (below : List Frame) (meth : Method) (c : Code) (H : Heap) (locs : List Loc) (cells slots mc ms : Nat) (g : JFrame) (rest : List Value) (Qa : State → Outcome → State → Prop) (XC : String → State → State → Prop) (free : Addr → Prop) : Prop :=
  ∀ T : State, T.heap = H → Stand p l e R s m args below meth c T locs cells slots →
    (∃ (v : Option Value) (st₀ t T' : State) (L : List Loc), st₀.heap = H ∧ Stand p l e R s m args below meth c T' (locs ++ L) (cells + mc) (slots + ms) ∧ (∀ q ∈ L, free q.base) ∧ T'.heap = t.heap ∧ T'.vm = t.vm ∧ Qa st₀ (.returned v) t ∧
      Goes p e below T g T' { g with pc := g.pc + 3, stack := v.toList ++ rest }) ∨
    (∃ (q : Addr) (st₀ t T' : State) (L : List Loc) (E : String) (ce : Cell), st₀.heap = H ∧ Stand p l e R s m args below meth c T' (locs ++ L) (cells + mc) (slots + ms) ∧ (∀ z ∈ L, free z.base) ∧ T'.heap = t.heap ∧ T'.vm = t.vm ∧ XC E st₀ t ∧ t.heap[q]? = some ce ∧ ce.vm = .none ∧ s.vm.findClass E = some ce.cls ∧
      Steps p.tables e below (T.setTop g) ((T'.setTop { g with stack := rest }).pushFrame (.throwing q)))
def vx_X {S : Type} (px : S → Prop) (B : String → S → State → Prop) (A : Nat → Prop) : String → State → State → Prop := fun E st t => ∃ u : S, px u ∧ B E u t ∧ va_F A st t
section Runs
variable {p : Program} {l : Launch} {e : Env} {R : Room} {s : State} {m : MethodId} {args : Array Value} {below : List Frame} {meth : Method} {c : Code} {H : Heap} {locs : List Loc} {cells slots : Nat}
variable {y : MethodName} {bytes cc : ByteArray} {maxL nL mc ms n index : Nat} {ret : Option FieldType} {ws : List Cond} {rm : Room} {Pc : Array Value → State → Prop} {Qc : Array Value → State → Outcome → State → Prop} {XC : String → State → State → Prop} {free : Addr → Prop} {Ts : List Cond} {own C : String} {b : Addr} {As rest : List Value} {g : JFrame}
theorem vx_callBack (cb : CallB R s args own index y bytes maxL ret ws rm mc ms n) (hM : vx_Met l y ws rm Pc Qc XC mc ms free) (hbl : FrameBlind Pc) : vx_Back l R p e below s args y 3 8 (PreOf R mc ms Pc) (PostOf Qc mc ms free) (vx_Post XC mc ms free) := by
  obtain ⟨hrc, hrs, hfr, hlo, hws, hcw, -, hini, -⟩ := cb
  exact vx_back (bytes := bytes) (maxL := maxL) (ret := ret) hM hbl hrc hrs hfr hlo hws hcw (fun a' U hW => word_at hW (Or.inl (by first | rfl | simp [Cond.onTables, Cond.keeps, Cond.steady])) hini)
theorem vx_runV (S : CallFix p m c cc nL s args Ts own) (hM : vx_Met l y ws rm Pc Qc XC mc ms free) (cw : CallW R s args own C index y bytes maxL ret ws rm mc ms n) (hp : PreV s H C b Pc As)
    (hg : g.method = m) (hn : As.length = n) (hsize : g.locals.size = nL) (hstack : g.stack = As.reverse ++ .ref b :: rest) (hW : 2 * g.monitorRoom + (rest.map fun v => v.category).sum ≤ 8) (hdg : decode cc g.pc = .ok (.invokevirtual index, 3)) (hf : cells + mc ≤ R.cells ∧ slots + ms ≤ R.slots) :
    vx_Run p l e R s m args below meth c H locs cells slots mc ms g rest (Qc (Value.ref b :: As).toArray) XC free := by
  have hK : vx_Back l R p e below s args y 3 8 (PreOf R mc ms Pc) (PostOf Qc mc ms free) (vx_Post XC mc ms free) := vx_callBack cw.1 hM hp.1
  obtain ⟨⟨-, -, -, -, -, -, hcode, -, hy, hlen, hl⟩, hin, hse⟩ := cw
  obtain ⟨hx, hb, hml, ho, -⟩ := S
  obtain ⟨-, ⟨cellB, hcB, hoB, hclB⟩, hPc⟩ := hp
  intro T hT X
  rcases vx_callV X hx (C := C) (bytes := bytes) (maxL := maxL) (ret := ret) ho hl hin hse hcode hy hK (by rw [hT]; exact hcB) hoB hclB hg (hsize.trans hml.symm) (argsL := As) (rest := rest) (fun sig h => hn.trans (hlen sig h)) hstack hW (by rw [hb]; exact hdg)
    (fun vm₁ hW₁ => ⟨hf.1, hf.2, hPc (T.setVm vm₁) hT hW₁⟩) with ⟨v, vm₁, ⟨U', l2, c2, s2⟩, hW₁, X', ⟨g', mk, t, L, e1, e2, hq, h1, hL, h2, h3⟩, st⟩ | ⟨q, vm₁, ⟨U', l2, c2, s2⟩, hW₁, X', ⟨g', mk, t, L, E, ce, e1, e2, hq, hce, hcv, hcl, h1, hL, h2, h3⟩, st⟩
  · dsimp only [Pt.U, Pt.locs, Pt.cells, Pt.slots] at X' e1 e2 h1 h2 h3 st
    subst h1; subst h2; subst h3
    exact Or.inl ⟨v, (T.setVm vm₁).calling g' mk (Value.ref b :: As).toArray, t, U', L, hT, X', hL, e1, e2, hq, st⟩
  · dsimp only [Pt.U, Pt.locs, Pt.cells, Pt.slots] at X' e1 e2 h1 h2 h3 st hcl
    subst h1; subst h2; subst h3
    exact Or.inr ⟨q, (T.setVm vm₁).calling g' mk (Value.ref b :: As).toArray, t, U', L, E, ce, hT, X', hL, e1, e2, hq, hce, hcv, vx_cls hW₁ hcl, st⟩
theorem vx_runS (S : CallFix p m c cc nL s args Ts own) (hM : vx_Met l y ws rm Pc Qc XC mc ms free) (cw : CallB R s args own index y bytes maxL ret ws rm mc ms n ∧ (Cond.static y).before args s = true) (hp : PreS s H Pc As)
    (hg : g.method = m) (hn : As.length = n) (hsize : g.locals.size = nL) (hstack : g.stack = As.reverse ++ rest) (hW : 2 * g.monitorRoom + (rest.map fun v => v.category).sum ≤ 8) (hdg : decode cc g.pc = .ok (.invokestatic index, 3)) (hf : cells + mc ≤ R.cells ∧ slots + ms ≤ R.slots) :
    vx_Run p l e R s m args below meth c H locs cells slots mc ms g rest (Qc As.toArray) XC free := by
  have hK : vx_Back l R p e below s args y 3 8 (PreOf R mc ms Pc) (PostOf Qc mc ms free) (vx_Post XC mc ms free) := vx_callBack cw.1 hM hp.1
  obtain ⟨⟨-, -, -, -, -, -, hcode, hini, hy, hlen, hl⟩, hstt⟩ := cw
  obtain ⟨hx, hb, hml, ho, -⟩ := S
  intro T hT X
  rcases vx_callS X hx (bytes := bytes) (maxL := maxL) (ret := ret) ho hl hstt hini hcode hy hK hg (hsize.trans hml.symm) (argsL := As) (rest := rest) (fun sig h => hn.trans (hlen sig h)) hstack hW (by rw [hb]; exact hdg)
    (fun vm₁ hW₁ => ⟨hf.1, hf.2, hp.2 (T.setVm vm₁) hT hW₁⟩) with ⟨v, vm₁, ⟨U', l2, c2, s2⟩, hW₁, X', ⟨g', mk, t, L, e1, e2, hq, h1, hL, h2, h3⟩, st⟩ | ⟨q, vm₁, ⟨U', l2, c2, s2⟩, hW₁, X', ⟨g', mk, t, L, E, ce, e1, e2, hq, hce, hcv, hcl, h1, hL, h2, h3⟩, st⟩
  · dsimp only [Pt.U, Pt.locs, Pt.cells, Pt.slots] at X' e1 e2 h1 h2 h3 st
    subst h1; subst h2; subst h3
    exact Or.inl ⟨v, (T.setVm vm₁).calling g' mk As.toArray, t, U', L, hT, X', hL, e1, e2, hq, st⟩
  · dsimp only [Pt.U, Pt.locs, Pt.cells, Pt.slots] at X' e1 e2 h1 h2 h3 st hcl
    subst h1; subst h2; subst h3
    exact Or.inr ⟨q, (T.setVm vm₁).calling g' mk As.toArray, t, U', L, E, ce, hT, X', hL, e1, e2, hq, hce, hcv, vx_cls hW₁ hcl, st⟩
end Runs
section Rows
variable {p : Program} {l : Launch} {e : Env} {R : Room} {s : State} {m : MethodId} {args : Array Value} {below : List Frame} {meth : Method} {c : Code} {H : Heap} {locs : List Loc} {cells slots : Nat} {Q : State → Prop}
variable {mc ms : Nat} {free : Addr → Prop} {A0 A1 : Nat → Prop} {H0 : Heap} {a : Array Value} {pc : Nat} {ls : Array Slot} {st0 rest : List Value}
theorem vx_keep {st₀ t T' : State} {L : List Loc} (h0 : st₀.heap = H) (e1 : T'.heap = t.heap) (hS : va_S A0 H0 H locs) (hA : ∀ q, q < H.size → A1 q → A0 q) (hf : ∀ q, free q → A0 q) (hL : ∀ q ∈ L, free q.base) (hF : va_F A1 st₀ t) :
    H.size ≤ T'.heap.size ∧ (∀ q : Nat, q < H.size → ¬ A1 q → T'.heap[q]? = H[q]?) ∧ va_S A0 H0 T'.heap (locs ++ L) := by
  obtain ⟨hz, hk⟩ := hF
  rw [h0] at hz hk
  exact ⟨by rw [e1]; exact hz, fun q h1 h2 => by rw [e1]; exact hk q h1 h2,
    ⟨Nat.le_trans hS.1 (by rw [e1]; exact hz), fun q h1 h2 => by rw [e1, hk q (Nat.lt_of_lt_of_le h1 hS.1) (fun z => h2 (hA q (Nat.lt_of_lt_of_le h1 hS.1) z))]; exact hS.2.1 q h1 h2, fun q hq => by
      rcases List.mem_append.mp hq with h | h
      · exact hS.2.2 q h
      · exact hf _ (hL q h)⟩⟩
theorem vx_calli {S SX : Type} {post : Int32 → S → Prop} {px : SX → Prop} {B : S → State → Prop} {BX : String → SX → State → Prop} {AX : Nat → Prop} (hr : vx_Run p l e R s m args below meth c H locs cells slots mc ms (F0 m pc ls st0) rest (va_Qi post B A1 a) (vx_X px BX AX) free) (hS : va_S A0 H0 H locs) (hA : ∀ q, q < H.size → A1 q → A0 q) (hf : ∀ q, free q → A0 q) (hAX : ∀ q, q < H.size → AX q → A0 q)
    (kx : ∀ (E : String) (ce : Cell) (q9 : Addr) (u : SX) (t : State) (H1 : Heap) (locs1 : List Loc), t.heap = H1 → s.vm.Alike t.vm → px u → BX E u t → H.size ≤ H1.size → (∀ q : Nat, q < H.size → ¬ AX q → H1[q]? = H[q]?) → va_S A0 H0 H1 locs1 → H1[q9]? = some ce → ce.vm = .none → s.vm.findClass E = some ce.cls → vx_W p l e R s m args below meth c H1 locs1 (cells + mc) (slots + ms) Q (F0 m pc ls rest) q9)
    (kk : ∀ (r : Int32) (u : S) (t : State) (H1 : Heap) (locs1 : List Loc), t.heap = H1 → s.vm.Alike t.vm → post r u → B u t → H.size ≤ H1.size → (∀ q : Nat, q < H.size → ¬ A1 q → H1[q]? = H[q]?) → va_S A0 H0 H1 locs1 → W p l e R s m args below meth c H1 locs1 (cells + mc) (slots + ms) Q (F0 m (pc + 3) ls (.int r :: rest))) : W p l e R s m args below meth c H locs cells slots Q (F0 m pc ls st0) := by
  intro T hT X
  rcases hr T hT X with ⟨v, st₀, t, T', L, h0, X', hL, e1, e2, ⟨⟨r, u, hv, hp, hb⟩, hF⟩, st⟩ | ⟨q, st₀, t, T', L, E, ce, h0, X', hL, e1, e2, ⟨u, hp, hb, hF⟩, hce, hcv, hcl, st⟩
  · cases hv
    obtain ⟨k1, k2, k3⟩ := vx_keep h0 e1 hS hA hf hL hF
    obtain ⟨t2, a1, b1⟩ := kk r u t T'.heap (locs ++ L) e1.symm (by rw [← e2]; exact X'.warmed.alike) hp hb k1 k2 k3 T' rfl X'
    exact ⟨t2, st t2 a1, b1⟩
  · obtain ⟨k1, k2, k3⟩ := vx_keep h0 e1 hS hAX hf hL hF
    obtain ⟨t2, a1, b1⟩ := kx E ce q u t T'.heap (locs ++ L) e1.symm (by rw [← e2]; exact X'.warmed.alike) hp hb k1 k2 k3 (by rw [e1]; exact hce) hcv hcl T' rfl X'
    exact ⟨t2, st.trans a1, b1⟩
theorem vx_calll {S SX : Type} {post : Int64 → S → Prop} {px : SX → Prop} {B : S → State → Prop} {BX : String → SX → State → Prop} {AX : Nat → Prop} (hr : vx_Run p l e R s m args below meth c H locs cells slots mc ms (F0 m pc ls st0) rest (va_Ql post B A1 a) (vx_X px BX AX) free) (hS : va_S A0 H0 H locs) (hA : ∀ q, q < H.size → A1 q → A0 q) (hf : ∀ q, free q → A0 q) (hAX : ∀ q, q < H.size → AX q → A0 q)
    (kx : ∀ (E : String) (ce : Cell) (q9 : Addr) (u : SX) (t : State) (H1 : Heap) (locs1 : List Loc), t.heap = H1 → s.vm.Alike t.vm → px u → BX E u t → H.size ≤ H1.size → (∀ q : Nat, q < H.size → ¬ AX q → H1[q]? = H[q]?) → va_S A0 H0 H1 locs1 → H1[q9]? = some ce → ce.vm = .none → s.vm.findClass E = some ce.cls → vx_W p l e R s m args below meth c H1 locs1 (cells + mc) (slots + ms) Q (F0 m pc ls rest) q9)
    (kk : ∀ (r : Int64) (u : S) (t : State) (H1 : Heap) (locs1 : List Loc), t.heap = H1 → s.vm.Alike t.vm → post r u → B u t → H.size ≤ H1.size → (∀ q : Nat, q < H.size → ¬ A1 q → H1[q]? = H[q]?) → va_S A0 H0 H1 locs1 → W p l e R s m args below meth c H1 locs1 (cells + mc) (slots + ms) Q (F0 m (pc + 3) ls (.long r :: rest))) : W p l e R s m args below meth c H locs cells slots Q (F0 m pc ls st0) := by
  intro T hT X
  rcases hr T hT X with ⟨v, st₀, t, T', L, h0, X', hL, e1, e2, ⟨⟨r, u, hv, hp, hb⟩, hF⟩, st⟩ | ⟨q, st₀, t, T', L, E, ce, h0, X', hL, e1, e2, ⟨u, hp, hb, hF⟩, hce, hcv, hcl, st⟩
  · cases hv
    obtain ⟨k1, k2, k3⟩ := vx_keep h0 e1 hS hA hf hL hF
    obtain ⟨t2, a1, b1⟩ := kk r u t T'.heap (locs ++ L) e1.symm (by rw [← e2]; exact X'.warmed.alike) hp hb k1 k2 k3 T' rfl X'
    exact ⟨t2, st t2 a1, b1⟩
  · obtain ⟨k1, k2, k3⟩ := vx_keep h0 e1 hS hAX hf hL hF
    obtain ⟨t2, a1, b1⟩ := kx E ce q u t T'.heap (locs ++ L) e1.symm (by rw [← e2]; exact X'.warmed.alike) hp hb k1 k2 k3 (by rw [e1]; exact hce) hcv hcl T' rfl X'
    exact ⟨t2, st.trans a1, b1⟩
theorem vx_callf {S SX : Type} {post : UInt32 → S → Prop} {px : SX → Prop} {B : S → State → Prop} {BX : String → SX → State → Prop} {AX : Nat → Prop} (hr : vx_Run p l e R s m args below meth c H locs cells slots mc ms (F0 m pc ls st0) rest (va_Qf post B A1 a) (vx_X px BX AX) free) (hS : va_S A0 H0 H locs) (hA : ∀ q, q < H.size → A1 q → A0 q) (hf : ∀ q, free q → A0 q) (hAX : ∀ q, q < H.size → AX q → A0 q)
    (kx : ∀ (E : String) (ce : Cell) (q9 : Addr) (u : SX) (t : State) (H1 : Heap) (locs1 : List Loc), t.heap = H1 → s.vm.Alike t.vm → px u → BX E u t → H.size ≤ H1.size → (∀ q : Nat, q < H.size → ¬ AX q → H1[q]? = H[q]?) → va_S A0 H0 H1 locs1 → H1[q9]? = some ce → ce.vm = .none → s.vm.findClass E = some ce.cls → vx_W p l e R s m args below meth c H1 locs1 (cells + mc) (slots + ms) Q (F0 m pc ls rest) q9)
    (kk : ∀ (r : UInt32) (u : S) (t : State) (H1 : Heap) (locs1 : List Loc), t.heap = H1 → s.vm.Alike t.vm → post r u → B u t → H.size ≤ H1.size → (∀ q : Nat, q < H.size → ¬ A1 q → H1[q]? = H[q]?) → va_S A0 H0 H1 locs1 → W p l e R s m args below meth c H1 locs1 (cells + mc) (slots + ms) Q (F0 m (pc + 3) ls (.float r :: rest))) : W p l e R s m args below meth c H locs cells slots Q (F0 m pc ls st0) := by
  intro T hT X
  rcases hr T hT X with ⟨v, st₀, t, T', L, h0, X', hL, e1, e2, ⟨⟨r, u, hv, hp, hb⟩, hF⟩, st⟩ | ⟨q, st₀, t, T', L, E, ce, h0, X', hL, e1, e2, ⟨u, hp, hb, hF⟩, hce, hcv, hcl, st⟩
  · cases hv
    obtain ⟨k1, k2, k3⟩ := vx_keep h0 e1 hS hA hf hL hF
    obtain ⟨t2, a1, b1⟩ := kk r u t T'.heap (locs ++ L) e1.symm (by rw [← e2]; exact X'.warmed.alike) hp hb k1 k2 k3 T' rfl X'
    exact ⟨t2, st t2 a1, b1⟩
  · obtain ⟨k1, k2, k3⟩ := vx_keep h0 e1 hS hAX hf hL hF
    obtain ⟨t2, a1, b1⟩ := kx E ce q u t T'.heap (locs ++ L) e1.symm (by rw [← e2]; exact X'.warmed.alike) hp hb k1 k2 k3 (by rw [e1]; exact hce) hcv hcl T' rfl X'
    exact ⟨t2, st.trans a1, b1⟩
theorem vx_calld {S SX : Type} {post : UInt64 → S → Prop} {px : SX → Prop} {B : S → State → Prop} {BX : String → SX → State → Prop} {AX : Nat → Prop} (hr : vx_Run p l e R s m args below meth c H locs cells slots mc ms (F0 m pc ls st0) rest (va_Qd post B A1 a) (vx_X px BX AX) free) (hS : va_S A0 H0 H locs) (hA : ∀ q, q < H.size → A1 q → A0 q) (hf : ∀ q, free q → A0 q) (hAX : ∀ q, q < H.size → AX q → A0 q)
    (kx : ∀ (E : String) (ce : Cell) (q9 : Addr) (u : SX) (t : State) (H1 : Heap) (locs1 : List Loc), t.heap = H1 → s.vm.Alike t.vm → px u → BX E u t → H.size ≤ H1.size → (∀ q : Nat, q < H.size → ¬ AX q → H1[q]? = H[q]?) → va_S A0 H0 H1 locs1 → H1[q9]? = some ce → ce.vm = .none → s.vm.findClass E = some ce.cls → vx_W p l e R s m args below meth c H1 locs1 (cells + mc) (slots + ms) Q (F0 m pc ls rest) q9)
    (kk : ∀ (r : UInt64) (u : S) (t : State) (H1 : Heap) (locs1 : List Loc), t.heap = H1 → s.vm.Alike t.vm → post r u → B u t → H.size ≤ H1.size → (∀ q : Nat, q < H.size → ¬ A1 q → H1[q]? = H[q]?) → va_S A0 H0 H1 locs1 → W p l e R s m args below meth c H1 locs1 (cells + mc) (slots + ms) Q (F0 m (pc + 3) ls (.double r :: rest))) : W p l e R s m args below meth c H locs cells slots Q (F0 m pc ls st0) := by
  intro T hT X
  rcases hr T hT X with ⟨v, st₀, t, T', L, h0, X', hL, e1, e2, ⟨⟨r, u, hv, hp, hb⟩, hF⟩, st⟩ | ⟨q, st₀, t, T', L, E, ce, h0, X', hL, e1, e2, ⟨u, hp, hb, hF⟩, hce, hcv, hcl, st⟩
  · cases hv
    obtain ⟨k1, k2, k3⟩ := vx_keep h0 e1 hS hA hf hL hF
    obtain ⟨t2, a1, b1⟩ := kk r u t T'.heap (locs ++ L) e1.symm (by rw [← e2]; exact X'.warmed.alike) hp hb k1 k2 k3 T' rfl X'
    exact ⟨t2, st t2 a1, b1⟩
  · obtain ⟨k1, k2, k3⟩ := vx_keep h0 e1 hS hAX hf hL hF
    obtain ⟨t2, a1, b1⟩ := kx E ce q u t T'.heap (locs ++ L) e1.symm (by rw [← e2]; exact X'.warmed.alike) hp hb k1 k2 k3 (by rw [e1]; exact hce) hcv hcl T' rfl X'
    exact ⟨t2, st.trans a1, b1⟩
theorem vx_callv {S SX : Type} {post : S → Prop} {px : SX → Prop} {B : S → State → Prop} {BX : String → SX → State → Prop} {AX : Nat → Prop} (hr : vx_Run p l e R s m args below meth c H locs cells slots mc ms (F0 m pc ls st0) rest (va_Qv post B A1 a) (vx_X px BX AX) free) (hS : va_S A0 H0 H locs) (hA : ∀ q, q < H.size → A1 q → A0 q) (hf : ∀ q, free q → A0 q) (hAX : ∀ q, q < H.size → AX q → A0 q)
    (kx : ∀ (E : String) (ce : Cell) (q9 : Addr) (u : SX) (t : State) (H1 : Heap) (locs1 : List Loc), t.heap = H1 → s.vm.Alike t.vm → px u → BX E u t → H.size ≤ H1.size → (∀ q : Nat, q < H.size → ¬ AX q → H1[q]? = H[q]?) → va_S A0 H0 H1 locs1 → H1[q9]? = some ce → ce.vm = .none → s.vm.findClass E = some ce.cls → vx_W p l e R s m args below meth c H1 locs1 (cells + mc) (slots + ms) Q (F0 m pc ls rest) q9)
    (kk : ∀ (u : S) (t : State) (H1 : Heap) (locs1 : List Loc), t.heap = H1 → s.vm.Alike t.vm → post u → B u t → H.size ≤ H1.size → (∀ q : Nat, q < H.size → ¬ A1 q → H1[q]? = H[q]?) → va_S A0 H0 H1 locs1 → W p l e R s m args below meth c H1 locs1 (cells + mc) (slots + ms) Q (F0 m (pc + 3) ls (rest))) : W p l e R s m args below meth c H locs cells slots Q (F0 m pc ls st0) := by
  intro T hT X
  rcases hr T hT X with ⟨v, st₀, t, T', L, h0, X', hL, e1, e2, ⟨⟨u, hv, hp, hb⟩, hF⟩, st⟩ | ⟨q, st₀, t, T', L, E, ce, h0, X', hL, e1, e2, ⟨u, hp, hb, hF⟩, hce, hcv, hcl, st⟩
  · cases hv
    obtain ⟨k1, k2, k3⟩ := vx_keep h0 e1 hS hA hf hL hF
    obtain ⟨t2, a1, b1⟩ := kk u t T'.heap (locs ++ L) e1.symm (by rw [← e2]; exact X'.warmed.alike) hp hb k1 k2 k3 T' rfl X'
    exact ⟨t2, st t2 a1, b1⟩
  · obtain ⟨k1, k2, k3⟩ := vx_keep h0 e1 hS hAX hf hL hF
    obtain ⟨t2, a1, b1⟩ := kx E ce q u t T'.heap (locs ++ L) e1.symm (by rw [← e2]; exact X'.warmed.alike) hp hb k1 k2 k3 (by rw [e1]; exact hce) hcv hcl T' rfl X'
    exact ⟨t2, st.trans a1, b1⟩
/-- caught by the row x of this method's table; the rows ahead don't take it -/
theorem vx_catch {own name : String} {E : String} {ce : Cell} {q : Addr} (hown : s.vm.findClass own = some m.cls) (pre : List ExceptionTableEntry) (x : ExceptionTableEntry) (suf : List ExceptionTableEntry) (hsplit : c.exceptionTable.toList = pre ++ x :: suf)
    (hpass : ∀ z ∈ pre, covers z pc = false ∨ (z.catchType ≠ 0 ∧ ∃ nm : String, (Cond.classLink own z.catchType nm).before args s = true ∧ va_Nc E nm s)) (hx : covers x pc = true) (h0 : x.catchType ≠ 0)
    (hlink : (Cond.classLink own x.catchType name).before args s = true) (hcast : (Cond.castable E name).before args s = true) (hcell : H[q]? = some ce) (hv : ce.vm = .none) (hcl : s.vm.findClass E = some ce.cls)
    (kk : W p l e R s m args below meth c H locs cells slots Q (F0 m x.handlerPc ls [.ref q])) : vx_W p l e R s m args below meth c H locs cells slots Q (F0 m pc ls rest) q := by
  intro T hT X
  have hpl : e.platform.magicAccessors = ({} : Platform).magicAccessors := by rw [X.admits.platform]
  obtain ⟨c3, c4, hc3, hc4, hasg⟩ := Cond.castable_spec hcast
  cases Option.some.inj (hc3.symm.trans hcl)
  obtain ⟨c5, hc5, hcl5⟩ := Cond.classLink_spec hown hlink e.platform hpl
  cases Option.some.inj (hc4.symm.trans hc5)
  obtain ⟨vm', X', st⟩ := X.thenCaughtThrough q (g := F0 m pc ls rest) rfl (Steps.refl _) (by rw [hT]; exact hcell) (by rw [hv]; rfl) (by obtain ⟨k9, h9, -⟩ := Vm.findClass_spec hcl; exact ⟨k9, h9⟩) pre x suf hsplit
    (fun z hz => by
      rcases hpass z hz with h | ⟨hz0, nm, hl1, hn1⟩
      · exact Or.inl h
      · obtain ⟨c6, hc6, hcl6⟩ := Cond.classLink_spec hown hl1 e.platform hpl
        obtain ⟨a8, b8, h1, h2, h3⟩ := hn1
        cases Option.some.inj (h1.symm.trans hcl)
        cases Option.some.inj (h2.symm.trans hc6)
        exact Or.inr ⟨hz0, _, hcl6, h3⟩) hx (Or.inr ⟨h0, c4, hcl5, hasg⟩)
  obtain ⟨t, a1, b1⟩ := kk (T.setVm vm') hT X'
  exact ⟨t, st.trans a1, b1⟩
end Rows
section Ends
variable {p : Program} {l : Launch} {e : Env} {R : Room} {s : State} {m : MethodId} {args : Array Value} {below : List Frame} {meth : Method} {c : Code} {H : Heap} {locs : List Loc} {cells slots : Nat} {Q : State → Prop}
variable {mc ms : Nat} {free : Addr → Prop} {A0 A1 : Nat → Prop} {H0 : Heap} {a : Array Value} {ls : Array Slot} {st0 rest : List Value}
variable {Qc : Array Value → State → Outcome → State → Prop} {XC : String → State → State → Prop}
/-- what a body that may throw owes at its end -/
def vx_MQ (below : List Frame) (Qc : Array Value → State → Outcome → State → Prop) (XC : String → State → State → Prop) (a : Array Value) (s : State) (mc ms : Nat) (free : Addr → Prop) : State → Prop := fun t =>
  ∃ o, t.status = .running ∧ Ended t below o ∧ vx_Q Qc XC mc ms free a s o t
theorem vx_ret {g : JFrame} {mc ms : Nat} (k : W p l e R s m args below meth c H locs cells slots (MQ below Qc args s mc ms free) g) : W p l e R s m args below meth c H locs cells slots (vx_MQ below Qc XC args s mc ms free) g := by
  intro T hT X
  obtain ⟨t, a1, o, b1, b2, b3, b4⟩ := k T hT X
  exact ⟨t, a1, o, b1, b2, Or.inl ⟨b3, b4⟩⟩
/-- not caught here: it goes on to the caller -/
theorem vx_widen {g : JFrame} {q : Addr} {k n : Nat} (h1 : cells ≤ k) (h2 : slots ≤ n) (kk : vx_W p l e R s m args below meth c H locs k n Q g q) : vx_W p l e R s m args below meth c H locs cells slots Q g q := fun T hT X => kk T hT (stand_widen X h1 h2)
theorem vx_out {pc : Nat} {E : String} {ce : Cell} {q : Addr} {mc ms : Nat} (hout : ∀ x ∈ c.exceptionTable.toList, covers x pc = false) (hlocks : meth.locks = false) (hcell : H[q]? = some ce) (hv : ce.vm = .none) (hcl : s.vm.findClass E = some ce.cls)
    (hx : ∀ t : State, t.heap = H → s.vm.Alike t.vm → XC E s t) (hf : ∀ z ∈ locs, free z.base) (hc : cells ≤ mc) (hs : slots ≤ ms) :
    vx_W p l e R s m args below meth c H locs cells slots (vx_MQ below Qc XC args s mc ms free) (F0 m pc ls rest) q := by
  intro T hT X
  obtain ⟨st1, hrun, hend, hW, hsm⟩ := X.leaveThrown q (g := F0 m pc ls rest) rfl rfl rfl hout hlocks
  have hcell9 : (T.setFrames (.throwing q :: below)).heap[q]? = some ce := by
    show T.heap[q]? = some ce
    rw [hT]; exact hcell
  exact ⟨_, st1, .threw q, hrun, hend, Or.inr ⟨q, rfl, E, ce, locs, hx _ hT hW.alike, hcell9, hv, hcl, hW, hsm.mono hc hs, hf⟩⟩
theorem vx_frame {U : State} {k n : Nat} (h : s.sameButNew ({ U with vm := s.vm } : State) locs k n) : s.heap.size ≤ U.heap.size ∧ ∀ q : Nat, q < s.heap.size → (∀ z ∈ locs, z.base ≠ q) → U.heap[q]? = s.heap[q]? := by
  obtain ⟨-, h2, -, -, -, h6⟩ := h
  refine ⟨h2, fun q hq hz => ?_⟩
  obtain ⟨c9, e1, e2, e3, e4⟩ := h6 q _ (Array.getElem?_eq_getElem hq)
  have hs : c9.slots = (s.heap[q]).slots := Array.ext_getElem? fun i => e4 i fun hm => hz _ hm rfl
  have h9 : c9 = s.heap[q] := by
    rw [hs] at e2
    exact e2
  have e5 : U.heap[q]? = some c9 := e1
  rw [e5, h9, Array.getElem?_eq_getElem hq]
/-- the words of a throw but the four that speak of the heap -/
def vx_no (w : Cond) : Bool := decide (w ≠ .isRef (.static Bundle.tN "UNASSIGNED_STACK" Bundle.steD)) && decide (w ≠ .isRef (.static Bundle.tN "SUPPRESSED_SENTINEL" Bundle.listD)) && decide (w ≠ .laysStatic Bundle.tN "UNASSIGNED_STACK" Bundle.steD) && decide (w ≠ .laysStatic Bundle.tN "SUPPRESSED_SENTINEL" Bundle.listD)
def vx_at0 (own : String) (ic : Nat) (X : String) (names : List String) : List Cond := (Bundle.ownAtoms0 own ic X names).filter vx_no
def vx_atS (own : String) (ic : Nat) (X : String) (names : List String) : List Cond := (Bundle.ownAtoms own ic X names).filter vx_no
/-- a word that the tables alone decide, or a good one -/
def vx_ot (w : Cond) : Bool := w.onTables || goodWord w
theorem vx_ot_at {args a' : Array Value} {s U : State} {w : Cond} (hW : s.WarmedH U.vm) (hvm : s.vm = U.vm) (hg : vx_ot w = true) (h : w.before args s = true) : w.before a' U = true := by
  simp only [vx_ot, Bool.or_eq_true] at hg
  rcases hg with hg | hg
  · exact va_tabs hg hvm h
  · exact word_at hW (good_of_word hg) h
/-- a list's words: the good ones out of the method's own list, the others by premises of their own -/
theorem vx_hat {args : Array Value} {s : State} {L B : List Cond} (h1 : ∀ w ∈ L.filter goodWord, w.before args s = true) (h2 : ∀ w ∈ L.filter (fun w => !goodWord w), w ∈ B) (h3 : ∀ w ∈ B, w.before args s = true) : ∀ w ∈ L, w.before args s = true := by
  intro w hw
  by_cases g : goodWord w = true
  · exact h1 w (List.mem_filter.mpr ⟨hw, g⟩)
  · refine h3 w (h2 w (List.mem_filter.mpr ⟨hw, ?_⟩))
    show (!goodWord w) = true
    cases hgw : goodWord w
    · rfl
    · exact absurd hgw g
theorem vx_c {args : Array Value} {s : State} {w : Cond} {B : List Cond} (h : w.before args s = true) (t : ∀ w ∈ B, w.before args s = true) : ∀ w' ∈ w :: B, w'.before args s = true := fun w' h' => (List.mem_cons.mp h').elim (fun e => by rw [e]; exact h) (t w')
theorem vx_n {args : Array Value} {s : State} : ∀ w ∈ ([] : List Cond), w.before args s = true := fun _ h => nomatch h
theorem vx_own {args : Array Value} {s : State} {L : List Cond} (h1 : ∀ w ∈ L.filter vx_no, w.before args s = true)
    (hU : (Cond.isRef (.static Bundle.tN "UNASSIGNED_STACK" Bundle.steD)).before args s = true) (hN : (Cond.isRef (.static Bundle.tN "SUPPRESSED_SENTINEL" Bundle.listD)).before args s = true)
    (lU : (Cond.laysStatic Bundle.tN "UNASSIGNED_STACK" Bundle.steD).before args s = true) (lN : (Cond.laysStatic Bundle.tN "SUPPRESSED_SENTINEL" Bundle.listD).before args s = true) : ∀ w ∈ L, w.before args s = true := by
  intro w hw
  by_cases e1 : w = .isRef (.static Bundle.tN "UNASSIGNED_STACK" Bundle.steD)
  · rw [e1]; exact hU
  · by_cases e2 : w = .isRef (.static Bundle.tN "SUPPRESSED_SENTINEL" Bundle.listD)
    · rw [e2]; exact hN
    · by_cases e3 : w = .laysStatic Bundle.tN "UNASSIGNED_STACK" Bundle.steD
      · rw [e3]; exact lU
      · by_cases e4 : w = .laysStatic Bundle.tN "SUPPRESSED_SENTINEL" Bundle.listD
        · rw [e4]; exact lN
        · exact h1 w (List.mem_filter.mpr ⟨hw, by unfold vx_no; rw [decide_eq_true e1, decide_eq_true e2, decide_eq_true e3, decide_eq_true e4]; rfl⟩)
/-- where a static field lies, its class's statics cell in H -/
def vx_L (C n d : String) (A : Nat → Prop) (U : State) (H : Heap) : Prop := ∃ (c : ClassId) (k : Class) (i : Nat) (f : Field) (a : Nat) (cell : Cell), U.vm.findClass C = some c ∧ U.fieldFound? C n d = some (c, k, i, f) ∧ f.isStatic = true ∧ k.statics = some a ∧ H[a]? = some cell ∧ cell.vm.isStatics = true ∧ cell.cls = c ∧ f.slot < cell.slots.size ∧ k.staticTypes[f.slot]? = some f.type ∧ ¬ A a
theorem vx_L.moved {C n d : String} {A : Nat → Prop} {u U : State} {H : Heap} (hvm : u.vm.Alike U.vm) (h : vx_L C n d A u H) : vx_L C n d A U H := by
  obtain ⟨c, k, i, f, a, cell, h1, h2, h3, h4, h5, h6, h7, h8, h9, h10⟩ := h
  obtain ⟨k', hi', he⟩ := State.fieldFound?_setVm hvm h2
  exact ⟨c, k', i, f, a, cell, by rw [hvm.findClass]; exact h1, hi', h3, by rw [he]; exact h4, h5, h6, h7, h8, by rw [he]; exact h9, h10⟩
theorem vx_L.kept {C n d : String} {A : Nat → Prop} {U : State} {H H1 : Heap} (h : vx_L C n d A U H) (hq : ∀ a : Nat, a < H.size → ¬ A a → H1[a]? = H[a]?) : vx_L C n d A U H1 := by
  obtain ⟨c, k, i, f, a, cell, h1, h2, h3, h4, h5, h6, h7, h8, h9, h10⟩ := h
  exact ⟨c, k, i, f, a, cell, h1, h2, h3, h4, by rw [hq a (Array.getElem?_eq_some_iff.mp h5).1 h10]; exact h5, h6, h7, h8, h9, h10⟩
theorem vx_L.narrow {C n d : String} {A B : Nat → Prop} {U : State} {H : Heap} (h : vx_L C n d A U H) (hAB : ∀ q, B q → A q) : vx_L C n d B U H := by
  obtain ⟨c, k, i, f, a, cell, h1, h2, h3, h4, h5, h6, h7, h8, h9, h10⟩ := h
  exact ⟨c, k, i, f, a, cell, h1, h2, h3, h4, h5, h6, h7, h8, h9, fun z => h10 (hAB _ z)⟩
theorem vx_L.word {C n d : String} {A : Nat → Prop} {s : State} {args : Array Value} (h : vx_L C n d A s s.heap) : (Cond.laysStatic C n d).before args s = true := by
  obtain ⟨c, k, i, f, a, cell, h1, h2, h3, h4, h5, h6, h7, h8, h9, -⟩ := h
  show (Cond.laysStatic C n d).holds args s none s [] = true
  exact Cond.laysStatic_of h1 h2 h3 h4 h5 h6 h7 h8 h9
/-- .. and what it holds: null or some reference -/
def vx_Zq (C n d : String) (A : Nat → Prop) (U : State) (H : Heap) : Prop := va_Zq C n d A U H ∧ vx_L C n d A U H
theorem vx_Zq.moved {C n d : String} {A : Nat → Prop} {u U : State} {H : Heap} (hvm : u.vm.Alike U.vm) (h : vx_Zq C n d A u H) : vx_Zq C n d A U H := ⟨va_Zq.moved hvm h.1, vx_L.moved hvm h.2⟩
theorem vx_Zq.kept {C n d : String} {A : Nat → Prop} {U : State} {H H1 : Heap} (h : vx_Zq C n d A U H) (hq : ∀ a : Nat, a < H.size → ¬ A a → H1[a]? = H[a]?) : vx_Zq C n d A U H1 := ⟨va_Zq.kept h.1 hq, vx_L.kept h.2 hq⟩
theorem vx_Zq.narrow {C n d : String} {A B : Nat → Prop} {U : State} {H : Heap} (h : vx_Zq C n d A U H) (hAB : ∀ q, B q → A q) : vx_Zq C n d B U H := ⟨va_Zq.narrow h.1 hAB, vx_L.narrow h.2 hAB⟩
theorem vx_Zqof {args : Array Value} {s : State} {C n d : String} {A : Nat → Prop} (hl : (Cond.laysStatic C n d).before args s = true) (hini : (Cond.initialized C).before args s = true) (h : (Cond.isRef (.static C n d)).before args s = true) (hA : ∀ a : Nat, a < s.heap.size → ¬ A a) : vx_Zq C n d A s s.heap := by
  refine ⟨va_Zqof hl hini h hA, ?_⟩
  obtain ⟨c, k, i, f, a, cell, h1, h2, h3, h4, h5, h6, h7, h8, h9⟩ := Cond.laysStatic_spec hl
  exact ⟨c, k, i, f, a, cell, h1, h2, h3, h4, h5, h6, h7, h8, h9, hA a (Array.getElem?_eq_some_iff.mp h5).1⟩
theorem vx_isRef {C n d : String} {v : Value} {A : Nat → Prop} {s : State} {args : Array Value} (h : va_Z C n d v A s s.heap) (hv : v.isRef = true) : (Cond.isRef (.static C n d)).before args s = true := by
  obtain ⟨cf, kf, fi, f, a, cell, h1, h2, h3, h4, h5, h6, h7, -⟩ := h
  have he : (Term.static C n d).eval args s none [] s = some v := by
    simp [Term.eval, State.fieldNamed?, h1, h2, h4, h5, h6, h7]
  simp only [Cond.before, Cond.holds, Cond.value, he]
  cases v <;> simp_all [Value.isRef]
theorem vx_isRefq {C n d : String} {A : Nat → Prop} {s : State} {args : Array Value} (h : va_Zq C n d A s s.heap) : (Cond.isRef (.static C n d)).before args s = true := by
  rcases h with h | ⟨t, h⟩
  · exact vx_isRef h rfl
  · exact vx_isRef h rfl
/-- the same frame, seen from here: as if the method were called anew in this heap -/
theorem vx_rebase {T : State} (X : Stand p l e R s m args below meth c T locs cells slots) {R' : Room} (hf : R'.frames ≤ R.frames) (hl : R'.locals ≤ R.locals) (hc : cells + R'.cells ≤ R.cells) (hs : slots + R'.slots ≤ R.slots) :
    Stand p l e R' ((T.setVm s.vm).setFrames (.invoking m args :: below)) m args below meth c T [] 0 0 := by
  have htop : (T.setVm s.vm).topJava?.isSome := X.here.top
  have hF : ((T.setVm s.vm).setFrames (.invoking m args :: below)).frames = .invoking m args :: below := State.frames_setFrames _ (State.cur_lt_of_top htop)
  obtain ⟨g₀, hg0⟩ := Option.isSome_iff_exists.mp htop
  obtain ⟨r, hr⟩ := State.topJava?_eq_some.mp hg0
  have hl9 : e.platform.stackLimits (T.setVm s.vm).me = e.platform.stackLimits s.me := X.limits
  have hb9 : (T.setVm s.vm).me.stackBytes = s.me.stackBytes := X.bytes
  refine ⟨X.admits, X.cas, X.clock, hF, ?_, X.hears, X.method, X.code, X.here, X.tail, X.warmed, ?_, ?_, ?_⟩
  · have h := X.room
    have hU : ((T.setVm s.vm).setFrames (.invoking m args :: below)).localsInUse = s.localsInUse := by
      rw [State.localsInUse_invoking hF (meth := meth) (c := c) X.method X.code, State.localsInUse_invoking X.frames X.method X.code]
    simp only [State.hasRoom, Bool.and_eq_true, decide_eq_true_eq] at h ⊢
    obtain ⟨⟨⟨⟨h1, h2, h3, h4, h5, h6⟩, h7⟩, h8⟩, h9⟩ := h
    rw [X.frames, List.length_cons] at h2 h3
    have q1 := X.heapSize
    have q2 := X.used
    simp only [hF, hU, List.length_cons, State.stackLimits_setFrames, State.stackBytes_setFrames, hl9, hb9]
    refine ⟨⟨⟨⟨by omega, by omega, by omega, by omega, by omega, h6⟩, ?_⟩, ?_⟩, X.book⟩
    · show T.heap.size + R'.cells ≤ e.platform.maxCells
      omega
    · show T.slotsUsed + R'.slots ≤ e.platform.maxSlots
      omega
  · rw [State.stackLimits_setFrames]; rfl
  · rw [State.stackBytes_setFrames]; rfl
  · refine ⟨?_, Nat.le_refl _, Nat.le_refl _, ?_, ?_, fun a c9 h9 => ⟨c9, h9, rfl, rfl, fun _ _ => rfl⟩⟩
    · obtain ⟨t, ht, -⟩ := State.frames_cons hr
      show T.setVm s.vm = { ((T.setVm s.vm).setFrames (.invoking m args :: below)).setFrames (T.setVm s.vm).frames with heap := T.heap, slotsUsed := T.slotsUsed }
      rw [State.setFrames_setFrames, State.setFrames_self ht]
      rfl
    · show T.slotsUsed = T.slotsUsed + ((T.heap.toList.drop T.heap.size).map (·.slots.size)).sum
      rw [List.drop_eq_nil_of_le (Nat.le_of_eq Array.length_toList)]
      rfl
    · show ((T.heap.toList.drop T.heap.size).map (·.slots.size)).sum ≤ 0
      rw [List.drop_eq_nil_of_le (Nat.le_of_eq Array.length_toList)]
      exact Nat.le_refl _
/-- 'throw new E()': new; dup; invokespecial; athrow -/
theorem vx_throw0 {cc : ByteArray} {pc : Nat} (hexec : p.tables.exec = Jvm.exec) (hb : c.code = cc) (hl : l.stackTraces = false) {own cls : String} {names : List String} {ik ic mc ms : Nat} {A : Nat → Prop}
    (hown : s.vm.findClass own = some m.cls) (hcls : Bundle.fit cls = true) (hnames : ∀ n ∈ names, Bundle.fit n = true)
    (hk : (Cond.classLink own ik cls).before args s = true) (hini : (Cond.initialized cls).before args s = true) (hat : ∀ w ∈ vx_at0 own ic cls names, w.before args s = true)
    (hgood : ∀ w ∈ Cond.classLink own ik cls :: Cond.initialized cls :: vx_at0 own ic cls names, vx_ot w = true)
    (hU : vx_Zq Bundle.tN "UNASSIGNED_STACK" Bundle.steD A s s.heap) (hN : vx_Zq Bundle.tN "SUPPRESSED_SENTINEL" Bundle.listD A s s.heap) (hS : va_S A s.heap H locs) (hsize : ls.size = c.maxLocals)
    (d0 : decode cc pc = .ok (.new ik, 3)) (d3 : decode cc (pc + 3) = .ok (.dup, 1)) (d4 : decode cc (pc + 4) = .ok (.invokespecial ic, 3)) (d7 : decode cc (pc + 7) = .ok (.athrow, 1))
    (hout : ∀ x ∈ c.exceptionTable.toList, covers x (pc + 7) = false)
    (hRframes : names.length + 3 < R.frames) (hRlocals : (rest.map fun v => v.category).sum + (13 * (names.length + 1) + 42) ≤ R.locals) (hRcells : cells + 1 ≤ R.cells) (hRslots : slots + 6 ≤ R.slots) (hlocks : meth.locks = false)
    (hx : ∀ t : State, s.vm.Alike t.vm → H.size ≤ t.heap.size → (∀ q : Nat, q < H.size → t.heap[q]? = H[q]?) → XC cls s t)
    (hf : ∀ z ∈ locs, free z.base) (hc : cells + 1 ≤ mc) (hs : slots + 6 ≤ ms) :
    W p l e R s m args below meth c H locs cells slots (vx_MQ below Qc XC args s mc ms free) (F0 m pc ls rest) := by
  intro T hT X
  have htr : e.platform.stackTraces = false := (show e.platform.stackTraces = l.stackTraces by rw [X.admits.platform]).trans hl
  have Y := vx_rebase X (R' := { frames := R.frames, locals := R.locals, cells := 1, slots := 6 }) (Nat.le_refl _) (Nat.le_refl _) hRcells hRslots
  obtain ⟨s', hA⟩ : ∃ z, z = (T.setVm s.vm).setFrames (.invoking m args :: below) := ⟨_, rfl⟩
  rw [← hA] at Y
  have hvm : s'.vm = s.vm := by rw [hA]; rfl
  have hhp : s'.heap = H := by rw [hA]; exact hT
  have hW0 : s.WarmedH s'.vm := by rw [hvm]; exact State.WarmedH.refl s
  have hat' : ∀ w ∈ vx_at0 own ic cls names, w.before args s' = true := fun w hw => vx_ot_at hW0 hvm.symm (hgood w (List.mem_cons_of_mem _ (List.mem_cons_of_mem _ hw))) (hat w hw)
  have hk' : (Cond.classLink own ik cls).before args s' = true := vx_ot_at hW0 hvm.symm (hgood _ List.mem_cons_self) hk
  have hini' : (Cond.initialized cls).before args s' = true := vx_ot_at hW0 hvm.symm (hgood _ (List.mem_cons_of_mem _ List.mem_cons_self)) hini
  have hU' : vx_Zq Bundle.tN "UNASSIGNED_STACK" Bundle.steD A s' s'.heap := by rw [hhp]; exact vx_Zq.moved hW0.alike (hU.kept hS.2.1)
  have hN' : vx_Zq Bundle.tN "SUPPRESSED_SENTINEL" Bundle.listD A s' s'.heap := by rw [hhp]; exact vx_Zq.moved hW0.alike (hN.kept hS.2.1)
  have h : ∀ w ∈ Bundle.ownAtoms0 own ic cls names, w.before args s' = true := vx_own hat' (vx_isRefq hU'.1) (vx_isRefq hN'.1) hU'.2.word hN'.2.word
  have hown' : s'.vm.findClass own = some m.cls := by rw [hvm]; exact hown
  have hins : (Cond.instantiable cls 6).before args s' = true := h _ (by simp [Bundle.ownAtoms0])
  obtain ⟨vm₁, cX, kX, hfX, hkX, -, -, X₁, st1⟩ := Y.newCold hexec (own := own) (C := cls) (index := ik) (n := 6) hown' hk' hins hini'
    (g := F0 m pc ls rest) rfl (by rw [hb]; exact d0) (Nat.le_refl _) (Nat.le_refl _)
  generalize hT1 : (T.setVm vm₁).pushCell { cls := cX, slots := kX.instanceTypes.map defaultValue, vm := .none } = T1 at X₁ st1
  have hcat : (Value.ref T.heap.size).category = 1 := rfl
  have hcellA : T1.heap[T.heap.size]? = some (freshCell cX kX) := by rw [← hT1]; exact State.heap_pushCell_size _ _
  have d3' : decode c.code (pc + 3) = .ok (.dup, 1) := by rw [hb]; exact d3
  obtain ⟨U, hsteps, hrun, hend, hW, hsame, ce, hce, hO⟩ := X₁.ctorThrow0 hexec htr (own := own) (cls := cls) (names := names) (ic := ic) hown' hcls hnames h (fun x hx => nomatch hx) hfX hkX hcellA (by rw [hhp, hT]; exact Nat.le_refl _)
    (g := { method := m, pc := pc + 4, locals := ls, stack := .ref T.heap.size :: .ref T.heap.size :: rest, locked := none }) rfl hsize rfl rfl (rest := rest) rfl
    (by rw [hb]; exact d4) (by rw [hb]; exact d7) hout hRframes (by simp only [List.map_cons, List.sum_cons, hcat]; omega) hlocks
  obtain ⟨f1, f2⟩ := vx_frame hsame
  rw [hhp] at f1 f2
  have hWs : s.WarmedH U.vm := State.WarmedH.trans hW0 hW
  have hcl : s.vm.findClass cls = some ce.cls := by
    have h9 := hO.cls
    rw [hvm] at h9
    exact h9
  have hall : s.sameButNew ({ U with vm := s.vm } : State) locs mc ms := by
    subst hA
    obtain ⟨e1, e2⟩ := hsame
    rw [State.setFrames_setFrames] at e1
    have h2 : (T.setVm s.vm).sameButNew ({ U with vm := s.vm } : State) [] (0 + 1) (0 + 6) := ⟨e1, e2⟩
    have h3 := X.same.trans h2
    rw [List.append_nil] at h3
    exact h3.mono hc hs
  refine ⟨U, ?_, .threw T.heap.size, hrun, hend, Or.inr ⟨T.heap.size, rfl, cls, ce, locs, hx U hWs.alike f1 (fun q hq => f2 q hq (fun z hz => nomatch hz)), hce, hO.vm, hcl, hWs, hall, hf⟩⟩
  refine st1 _ ?_
  show Steps p.tables e below (T1.setTop { method := m, pc := pc + 3, locals := ls, stack := .ref T.heap.size :: rest, locked := none }) _
  jvm_step X₁.here [X₁.here.top, hexec, d3', Value.category]
  exact hsteps
/-- 'throw new E("text")': new; dup; ldc; invokespecial; athrow -/
theorem vx_throwS {cc : ByteArray} {pc : Nat} (hexec : p.tables.exec = Jvm.exec) (hb : c.code = cc) (hl : l.stackTraces = false) {own cls text : String} {names : List String} {ik is ic mc ms sa : Nat} {A : Nat → Prop}
    (hown : s.vm.findClass own = some m.cls) (hcls : Bundle.fit cls = true) (hnames : ∀ n ∈ names, Bundle.fit n = true)
    (hk : (Cond.classLink own ik cls).before args s = true) (hini : (Cond.initialized cls).before args s = true) (hstr : vk_R own is text sa s) (hat : ∀ w ∈ vx_atS own ic cls names, w.before args s = true)
    (hgood : ∀ w ∈ Cond.classLink own ik cls :: Cond.initialized cls :: vx_atS own ic cls names, vx_ot w = true)
    (hU : vx_Zq Bundle.tN "UNASSIGNED_STACK" Bundle.steD A s s.heap) (hN : vx_Zq Bundle.tN "SUPPRESSED_SENTINEL" Bundle.listD A s s.heap) (hS : va_S A s.heap H locs) (hsize : ls.size = c.maxLocals)
    (d0 : decode cc pc = .ok (.new ik, 3)) (d3 : decode cc (pc + 3) = .ok (.dup, 1)) (d4 : decode cc (pc + 4) = .ok (.ldc is, 2)) (d6 : decode cc (pc + 6) = .ok (.invokespecial ic, 3)) (d9 : decode cc (pc + 9) = .ok (.athrow, 1))
    (hout : ∀ x ∈ c.exceptionTable.toList, covers x (pc + 9) = false)
    (hRframes : names.length + 3 < R.frames) (hRlocals : (rest.map fun v => v.category).sum + (13 * (names.length + 1) + 43) ≤ R.locals) (hRcells : cells + 1 ≤ R.cells) (hRslots : slots + 6 ≤ R.slots) (hlocks : meth.locks = false)
    (hx : ∀ t : State, s.vm.Alike t.vm → H.size ≤ t.heap.size → (∀ q : Nat, q < H.size → t.heap[q]? = H[q]?) → XC cls s t)
    (hf : ∀ z ∈ locs, free z.base) (hc : cells + 1 ≤ mc) (hs : slots + 6 ≤ ms) :
    W p l e R s m args below meth c H locs cells slots (vx_MQ below Qc XC args s mc ms free) (F0 m pc ls rest) := by
  intro T hT X
  have htr : e.platform.stackTraces = false := (show e.platform.stackTraces = l.stackTraces by rw [X.admits.platform]).trans hl
  have Y := vx_rebase X (R' := { frames := R.frames, locals := R.locals, cells := 1, slots := 6 }) (Nat.le_refl _) (Nat.le_refl _) hRcells hRslots
  obtain ⟨s', hA⟩ : ∃ z, z = (T.setVm s.vm).setFrames (.invoking m args :: below) := ⟨_, rfl⟩
  rw [← hA] at Y
  have hvm : s'.vm = s.vm := by rw [hA]; rfl
  have hhp : s'.heap = H := by rw [hA]; exact hT
  have hW0 : s.WarmedH s'.vm := by rw [hvm]; exact State.WarmedH.refl s
  have hat' : ∀ w ∈ vx_atS own ic cls names, w.before args s' = true := fun w hw => vx_ot_at hW0 hvm.symm (hgood w (List.mem_cons_of_mem _ (List.mem_cons_of_mem _ hw))) (hat w hw)
  have hk' : (Cond.classLink own ik cls).before args s' = true := vx_ot_at hW0 hvm.symm (hgood _ List.mem_cons_self) hk
  have hini' : (Cond.initialized cls).before args s' = true := vx_ot_at hW0 hvm.symm (hgood _ (List.mem_cons_of_mem _ List.mem_cons_self)) hini
  have hU' : vx_Zq Bundle.tN "UNASSIGNED_STACK" Bundle.steD A s' s'.heap := by rw [hhp]; exact vx_Zq.moved hW0.alike (hU.kept hS.2.1)
  have hN' : vx_Zq Bundle.tN "SUPPRESSED_SENTINEL" Bundle.listD A s' s'.heap := by rw [hhp]; exact vx_Zq.moved hW0.alike (hN.kept hS.2.1)
  have h : ∀ w ∈ Bundle.ownAtoms own ic cls names, w.before args s' = true := vx_own hat' (vx_isRefq hU'.1) (vx_isRefq hN'.1) hU'.2.word hN'.2.word
  have hown' : s'.vm.findClass own = some m.cls := by rw [hvm]; exact hown
  have hins : (Cond.instantiable cls 6).before args s' = true := h _ (by simp [Bundle.ownAtoms])
  obtain ⟨vm₁, cX, kX, hfX, hkX, -, -, X₁, st1⟩ := Y.newCold hexec (own := own) (C := cls) (index := ik) (n := 6) hown' hk' hins hini'
    (g := F0 m pc ls rest) rfl (by rw [hb]; exact d0) (Nat.le_refl _) (Nat.le_refl _)
  generalize hT1 : (T.setVm vm₁).pushCell { cls := cX, slots := kX.instanceTypes.map defaultValue, vm := .none } = T1 at X₁ st1
  have hcat : (Value.ref T.heap.size).category = 1 := rfl
  have hcellA : T1.heap[T.heap.size]? = some (freshCell cX kX) := by rw [← hT1]; exact State.heap_pushCell_size _ _
  have d3' : decode c.code (pc + 3) = .ok (.dup, 1) := by rw [hb]; exact d3
  have d4' : decode c.code (pc + 4) = .ok (.ldc is, 2) := by rw [hb]; exact d4
  have hstr' : vk_R own is text sa s' := vk_R.warm hW0 hstr
  obtain ⟨U, hsteps, hrun, hend, hW, hsame, ce, hce, hO⟩ := X₁.ctorThrowS hexec htr (own := own) (cls := cls) (names := names) (ic := ic) hown' hcls hnames h (fun x hx => nomatch hx) hfX hkX hcellA (by rw [hhp, hT]; exact Nat.le_refl _) (msg := .ref sa) rfl
    (g := { method := m, pc := pc + 6, locals := ls, stack := .ref sa :: .ref T.heap.size :: .ref T.heap.size :: rest, locked := none }) rfl hsize rfl rfl (rest := rest) rfl
    (by rw [hb]; exact d6) (by rw [hb]; exact d9) hout hRframes (by simp only [List.map_cons, List.sum_cons, hcat]; omega) hlocks
  obtain ⟨f1, f2⟩ := vx_frame hsame
  rw [hhp] at f1 f2
  have hWs : s.WarmedH U.vm := State.WarmedH.trans hW0 hW
  have hcl : s.vm.findClass cls = some ce.cls := by
    have h9 := hO.cls
    rw [hvm] at h9
    exact h9
  have hall : s.sameButNew ({ U with vm := s.vm } : State) locs mc ms := by
    subst hA
    obtain ⟨e1, e2⟩ := hsame
    rw [State.setFrames_setFrames] at e1
    have h2 : (T.setVm s.vm).sameButNew ({ U with vm := s.vm } : State) [] (0 + 1) (0 + 6) := ⟨e1, e2⟩
    have h3 := X.same.trans h2
    rw [List.append_nil] at h3
    exact h3.mono hc hs
  refine ⟨U, ?_, .threw T.heap.size, hrun, hend, Or.inr ⟨T.heap.size, rfl, cls, ce, locs, hx U hWs.alike f1 (fun q hq => f2 q hq (fun z hz => nomatch hz)), hce, hO.vm, hcl, hWs, hall, hf⟩⟩
  refine st1 _ ?_
  show Steps p.tables e below (T1.setTop { method := m, pc := pc + 3, locals := ls, stack := .ref T.heap.size :: rest, locked := none }) _
  jvm_step X₁.here [X₁.here.top, hexec, d3', Value.category]
  exact X₁.ldcString hexec (own := own) (text := text) (index := is) (a := sa) hown' hstr'.1 hstr'.2
    (g := { method := m, pc := pc + 4, locals := ls, stack := .ref T.heap.size :: .ref T.heap.size :: rest, locked := none }) rfl d4' _ hsteps
/-- 'throw new E("text")', the text by a wide index -/
theorem vx_throwSW {cc : ByteArray} {pc : Nat} (hexec : p.tables.exec = Jvm.exec) (hb : c.code = cc) (hl : l.stackTraces = false) {own cls text : String} {names : List String} {ik is ic mc ms sa : Nat} {A : Nat → Prop}
    (hown : s.vm.findClass own = some m.cls) (hcls : Bundle.fit cls = true) (hnames : ∀ n ∈ names, Bundle.fit n = true)
    (hk : (Cond.classLink own ik cls).before args s = true) (hini : (Cond.initialized cls).before args s = true) (hstr : vk_R own is text sa s) (hat : ∀ w ∈ vx_atS own ic cls names, w.before args s = true)
    (hgood : ∀ w ∈ Cond.classLink own ik cls :: Cond.initialized cls :: vx_atS own ic cls names, vx_ot w = true)
    (hU : vx_Zq Bundle.tN "UNASSIGNED_STACK" Bundle.steD A s s.heap) (hN : vx_Zq Bundle.tN "SUPPRESSED_SENTINEL" Bundle.listD A s s.heap) (hS : va_S A s.heap H locs) (hsize : ls.size = c.maxLocals)
    (d0 : decode cc pc = .ok (.new ik, 3)) (d3 : decode cc (pc + 3) = .ok (.dup, 1)) (d4 : decode cc (pc + 4) = .ok (.ldc_w is, 3)) (d7 : decode cc (pc + 7) = .ok (.invokespecial ic, 3)) (d10 : decode cc (pc + 10) = .ok (.athrow, 1))
    (hout : ∀ x ∈ c.exceptionTable.toList, covers x (pc + 10) = false)
    (hRframes : names.length + 3 < R.frames) (hRlocals : (rest.map fun v => v.category).sum + (13 * (names.length + 1) + 43) ≤ R.locals) (hRcells : cells + 1 ≤ R.cells) (hRslots : slots + 6 ≤ R.slots) (hlocks : meth.locks = false)
    (hx : ∀ t : State, s.vm.Alike t.vm → H.size ≤ t.heap.size → (∀ q : Nat, q < H.size → t.heap[q]? = H[q]?) → XC cls s t)
    (hf : ∀ z ∈ locs, free z.base) (hc : cells + 1 ≤ mc) (hs : slots + 6 ≤ ms) :
    W p l e R s m args below meth c H locs cells slots (vx_MQ below Qc XC args s mc ms free) (F0 m pc ls rest) := by
  intro T hT X
  have htr : e.platform.stackTraces = false := (show e.platform.stackTraces = l.stackTraces by rw [X.admits.platform]).trans hl
  have Y := vx_rebase X (R' := { frames := R.frames, locals := R.locals, cells := 1, slots := 6 }) (Nat.le_refl _) (Nat.le_refl _) hRcells hRslots
  obtain ⟨s', hA⟩ : ∃ z, z = (T.setVm s.vm).setFrames (.invoking m args :: below) := ⟨_, rfl⟩
  rw [← hA] at Y
  have hvm : s'.vm = s.vm := by rw [hA]; rfl
  have hhp : s'.heap = H := by rw [hA]; exact hT
  have hW0 : s.WarmedH s'.vm := by rw [hvm]; exact State.WarmedH.refl s
  have hat' : ∀ w ∈ vx_atS own ic cls names, w.before args s' = true := fun w hw => vx_ot_at hW0 hvm.symm (hgood w (List.mem_cons_of_mem _ (List.mem_cons_of_mem _ hw))) (hat w hw)
  have hk' : (Cond.classLink own ik cls).before args s' = true := vx_ot_at hW0 hvm.symm (hgood _ List.mem_cons_self) hk
  have hini' : (Cond.initialized cls).before args s' = true := vx_ot_at hW0 hvm.symm (hgood _ (List.mem_cons_of_mem _ List.mem_cons_self)) hini
  have hU' : vx_Zq Bundle.tN "UNASSIGNED_STACK" Bundle.steD A s' s'.heap := by rw [hhp]; exact vx_Zq.moved hW0.alike (hU.kept hS.2.1)
  have hN' : vx_Zq Bundle.tN "SUPPRESSED_SENTINEL" Bundle.listD A s' s'.heap := by rw [hhp]; exact vx_Zq.moved hW0.alike (hN.kept hS.2.1)
  have h : ∀ w ∈ Bundle.ownAtoms own ic cls names, w.before args s' = true := vx_own hat' (vx_isRefq hU'.1) (vx_isRefq hN'.1) hU'.2.word hN'.2.word
  have hown' : s'.vm.findClass own = some m.cls := by rw [hvm]; exact hown
  have hins : (Cond.instantiable cls 6).before args s' = true := h _ (by simp [Bundle.ownAtoms])
  obtain ⟨vm₁, cX, kX, hfX, hkX, -, -, X₁, st1⟩ := Y.newCold hexec (own := own) (C := cls) (index := ik) (n := 6) hown' hk' hins hini'
    (g := F0 m pc ls rest) rfl (by rw [hb]; exact d0) (Nat.le_refl _) (Nat.le_refl _)
  generalize hT1 : (T.setVm vm₁).pushCell { cls := cX, slots := kX.instanceTypes.map defaultValue, vm := .none } = T1 at X₁ st1
  have hcat : (Value.ref T.heap.size).category = 1 := rfl
  have hcellA : T1.heap[T.heap.size]? = some (freshCell cX kX) := by rw [← hT1]; exact State.heap_pushCell_size _ _
  have d3' : decode c.code (pc + 3) = .ok (.dup, 1) := by rw [hb]; exact d3
  have d4' : decode c.code (pc + 4) = .ok (.ldc_w is, 3) := by rw [hb]; exact d4
  have hstr' : vk_R own is text sa s' := vk_R.warm hW0 hstr
  obtain ⟨U, hsteps, hrun, hend, hW, hsame, ce, hce, hO⟩ := X₁.ctorThrowS hexec htr (own := own) (cls := cls) (names := names) (ic := ic) hown' hcls hnames h (fun x hx => nomatch hx) hfX hkX hcellA (by rw [hhp, hT]; exact Nat.le_refl _) (msg := .ref sa) rfl
    (g := { method := m, pc := pc + 7, locals := ls, stack := .ref sa :: .ref T.heap.size :: .ref T.heap.size :: rest, locked := none }) rfl hsize rfl rfl (rest := rest) rfl
    (by rw [hb]; exact d7) (by rw [hb]; exact d10) hout hRframes (by simp only [List.map_cons, List.sum_cons, hcat]; omega) hlocks
  obtain ⟨f1, f2⟩ := vx_frame hsame
  rw [hhp] at f1 f2
  have hWs : s.WarmedH U.vm := State.WarmedH.trans hW0 hW
  have hcl : s.vm.findClass cls = some ce.cls := by
    have h9 := hO.cls
    rw [hvm] at h9
    exact h9
  have hall : s.sameButNew ({ U with vm := s.vm } : State) locs mc ms := by
    subst hA
    obtain ⟨e1, e2⟩ := hsame
    rw [State.setFrames_setFrames] at e1
    have h2 : (T.setVm s.vm).sameButNew ({ U with vm := s.vm } : State) [] (0 + 1) (0 + 6) := ⟨e1, e2⟩
    have h3 := X.same.trans h2
    rw [List.append_nil] at h3
    exact h3.mono hc hs
  refine ⟨U, ?_, .threw T.heap.size, hrun, hend, Or.inr ⟨T.heap.size, rfl, cls, ce, locs, hx U hWs.alike f1 (fun q hq => f2 q hq (fun z hz => nomatch hz)), hce, hO.vm, hcl, hWs, hall, hf⟩⟩
  refine st1 _ ?_
  show Steps p.tables e below (T1.setTop { method := m, pc := pc + 3, locals := ls, stack := .ref T.heap.size :: rest, locked := none }) _
  jvm_step X₁.here [X₁.here.top, hexec, d3', Value.category]
  exact X₁.ldcStringW hexec (own := own) (text := text) (index := is) (a := sa) hown' hstr'.1 hstr'.2
    (g := { method := m, pc := pc + 4, locals := ls, stack := .ref T.heap.size :: .ref T.heap.size :: rest, locked := none }) rfl d4' _ hsteps
end Ends
section Bodies
variable {l : Launch}
theorem vx_ofW {y : MethodName} {ws ws' : List Cond} {rm : Room} {Pc : Array Value → State → Prop} {Qc : Array Value → State → Outcome → State → Prop} {XC : String → State → State → Prop} {mc ms : Nat} {free : Addr → Prop} {cc : ByteArray} {maxL : Nat} {ret : Option FieldType}
    (hy : plainName y.cls = true) (hw : ws = Cond.code y cc maxL ret :: ws')
    (body : ∀ p e s m args below meth c s₁, BodyLoose p l y (headSpec ws rm) cc maxL ret e s m args below meth c s₁ → c.maxLocals = maxL → (∀ x ∈ c.exceptionTable.toList, False) → Pc args s →
      W p l e (headSpec ws rm).room s m args below meth c s.heap [] 0 0 (vx_MQ below Qc XC args s mc ms free) (entryFrame m args maxL)) : vx_Met l y ws rm Pc Qc XC mc ms free := by
  refine MetFree.of_bodyS (code := cc) (maxLocals := maxL) (ret := ret) hy ?_ ?_
  · intro args s m h hn
    obtain ⟨meth, c, h1, h2, h3, h4, h5, h6, -, -⟩ := Cond.code_spec hn (atoms_spec (ws := ws) h _ (by rw [hw]; exact List.mem_cons_self))
    exact ⟨meth, c, h1, h2, h3, h4, h5, h6⟩
  · intro p e s m args below meth c s₁ B hml hP _
    have hh0 : s₁.heap = s.heap := by rw [B.state]; rfl
    have ht : ∀ x ∈ c.exceptionTable.toList, False := by
      obtain ⟨meth9, c9, h1, h2, -, -, -, -, h7, -⟩ := Cond.code_spec B.named (atoms_spec (ws := ws) B.pre _ (by rw [hw]; exact List.mem_cons_self))
      cases Option.some.inj (h1.symm.trans B.method)
      cases Option.some.inj (h2.symm.trans (Stand.of_body B).code)
      intro x hx
      rw [Array.isEmpty_iff.mp h7] at hx
      cases hx
    obtain ⟨t, a1, o, b1, b2, b3⟩ := body p e s m args below meth c s₁ B hml ht hP s₁ hh0 (Stand.of_body B)
    exact ⟨t, o, a1, b1, b2, b3⟩
/-- the table of a body with handlers -/
theorem vx_table {p : Program} {x y : MethodName} {S : Spec} {cc bytes : ByteArray} {maxL maxL' : Nat} {ret ret' : Option FieldType} {e : Env} {s s₁ : State} {m : MethodId} {args : Array Value} {below : List Frame} {meth : Method} {c : Code} {hh : List (Nat × Nat × Nat × Nat)}
    (B : BodyLoose p l y S cc maxL ret e s m args below meth c s₁) (h : (Cond.codeWith y bytes maxL' ret' hh).before args s = true) : c.exceptionTable.toList = tableOf hh := by
  obtain ⟨m9, meth9, c9, hn9, h1, h2, -, -, h6, -⟩ := Cond.codeWith_spec h
  cases Option.some.inj (hn9.symm.trans B.named)
  cases Option.some.inj (h1.symm.trans B.method)
  cases Option.some.inj (h2.symm.trans (Stand.of_body B).code)
  rw [← h6, table_eq]
end Bodies
end VXA
/-! ===== END ===== -/
/-! ===== BEGIN a static call of a method with an exception table ===== -/
section VXS
variable {p : Program} {l : Launch} {e : Env} {R : Room} {s : State} {m : MethodId} {args : Array Value} {below : List Frame} {meth : Method} {c : Code} {T : State} {H : Heap} {locs : List Loc} {cells slots : Nat}
abbrev vx_CSW (R : Room) (s : State) (args : Array Value) (own : String) (index : Nat) (y : MethodName) (bytes : ByteArray) (maxL : Nat) (ret : Option FieldType) (hh : List (Nat × Nat × Nat × Nat)) (ws : List Cond) (rm : Room) (mc ms n : Nat) : Prop :=
  (rm.cells = mc ∧ rm.slots = ms ∧ rm.frames + 1 ≤ R.frames ∧ 8 + (maxL + 11) + rm.locals ≤ R.locals ∧ (∀ w ∈ ws, ∀ (a' : Array Value) (U : State), s.WarmedH U.vm → w.before a' U = true) ∧ Cond.codeWith y bytes maxL ret hh ∈ ws) ∧
  (Cond.codeWith y bytes maxL ret hh).before args s = true ∧ (Cond.initialized y.cls).before args s = true ∧ (y.cls ≠ "java/lang/invoke/MethodHandle" ∧ y.cls ≠ "java/lang/invoke/VarHandle") ∧
  (∀ sig, parseMethodDescriptor y.desc = some sig → n = sig.parameters.length) ∧ (Cond.methodLink own index y).before args s = true ∧ (Cond.static y).before args s = true
theorem vx_cwSW {own : String} {index maxL mc ms : Nat} {y : MethodName} {bytes : ByteArray} {ret : Option FieldType} {hh : List (Nat × Nat × Nat × Nat)} {Ts ws ws' : List Cond} {rm : Room} (n : Nat) (ht : ∀ w ∈ Ts, w.before args s = true) (hT : GoodIn Ts (va_wsS own index y ws)) (hw : ws = Cond.codeWith y bytes maxL ret hh :: ws') (hrc : rm.cells = mc) (hrs : rm.slots = ms)
    (hd : y.cls ≠ "java/lang/invoke/MethodHandle" ∧ y.cls ≠ "java/lang/invoke/VarHandle" ∧ (parseMethodDescriptor y.desc).map (fun d => d.parameters.length) = some n) (hR : rm.frames + 1 ≤ R.frames ∧ 8 + (maxL + 11) + rm.locals ≤ R.locals) :
    vx_CSW R s args own index y bytes maxL ret hh ws rm mc ms n := by
  have ok : ∀ w ∈ va_wsS own index y ws, w.before args s = true := fun w h => ht w (hT w h).1
  have hG : GoodIn Ts ws := fun w h => hT w (by unfold va_wsS; exact List.mem_append_right _ h)
  have hc : Cond.codeWith y bytes maxL ret hh ∈ ws := by rw [hw]; exact List.mem_cons_self
  refine ⟨⟨hrc, hrs, hR.1, hR.2, pay_in ht hG, hc⟩, ht _ (hG _ hc).1, ok _ (by simp [va_wsS]), ⟨hd.1, hd.2.1⟩, fun sig h => ?_, ok _ (by simp [va_wsS]), ok _ (by simp [va_wsS])⟩
  have h2 := hd.2.2
  rw [h] at h2
  exact (Option.some.inj h2).symm
theorem vx_callSW (X : Stand p l e R s m args below meth c T locs cells slots) (hexec : p.tables.exec = Jvm.exec) {own : String} {index : Nat} {y : MethodName} {bytes : ByteArray} {maxL : Nat} {ret : Option FieldType} {hh : List (Nat × Nat × Nat × Nat)}
    (hown : s.vm.findClass own = some m.cls) (hlink : (Cond.methodLink own index y).before args s = true) (hstat : (Cond.static y).before args s = true) (hinit : (Cond.initialized y.cls).before args s = true)
    (hcode : (Cond.codeWith y bytes maxL ret hh).before args s = true) (hy : y.cls ≠ "java/lang/invoke/MethodHandle" ∧ y.cls ≠ "java/lang/invoke/VarHandle")
    {W9 : Nat} {Pre : Pt → Array Value → Prop} {Post : Pt → Array Value → Option Value → Pt → Prop} (hK : Back l R p e below s args y 3 W9 Pre Post)
    {g : JFrame} (hg : g.method = m) (hsize : g.locals.size = c.maxLocals) {argsL rest : List Value} (hlen : ∀ sig, parseMethodDescriptor y.desc = some sig → argsL.length = sig.parameters.length)
    (hstack : g.stack = argsL.reverse ++ rest) (hW : 2 * g.monitorRoom + (rest.map fun v => v.category).sum ≤ W9) (hdg : decode c.code g.pc = .ok (.invokestatic index, 3))
    (hpre : ∀ vm₁, s.WarmedH vm₁ → Pre ⟨T.setVm vm₁, locs, cells, slots⟩ argsL.toArray) :
    ∃ (v : Option Value) (vm₁ : Vm) (B : Pt), s.WarmedH vm₁ ∧ Stand p l e R s m args below meth c B.U B.locs B.cells B.slots ∧ Post ⟨T.setVm vm₁, locs, cells, slots⟩ argsL.toArray v B ∧
      ∀ target, Steps p.tables e below (B.U.setTop { g with pc := g.pc + 3, stack := v.toList ++ rest }) target → Steps p.tables e below (T.setTop g) target := by
  obtain ⟨mk, methM, cM, hnamed, hmethM, -, -, -, -, -, -, hsigM⟩ := Cond.codeWith_spec hcode
  have hstatic : methM.isStatic = true := Cond.static_spec hnamed hmethM hstat
  obtain ⟨kP, hkP, -⟩ := className_of_methodNamed hnamed
  have hinitP : kP.init = .initialized := Cond.initialized_spec (findClass_of_methodNamed hnamed) hkP hinit
  obtain ⟨vm₁, X₁, hstep₁⟩ := X.invokestatic hexec hown hlink hnamed hmethM hstatic hkP hinitP hy (g := g) hg (argsL := argsL) (rest := rest) (hlen _ hsigM) hstack hdg
  obtain ⟨v, B, X', hpost, hsteps⟩ := hK m meth c ⟨T.setVm vm₁, locs, cells, slots⟩ { g with stack := rest } (.invokestatic index) mk argsL.toArray X₁ hg hsize hdg hW (X₁.named hnamed) (hpre vm₁ X₁.warmed)
  exact ⟨v, vm₁, B, X₁.warmed, X', hpost, fun target h => hstep₁ _ fun acts => by rw [doInvoke_state]; exact hsteps.trans h⟩
theorem vx_runSW {y : MethodName} {bytes cc : ByteArray} {maxL nL mc ms n index : Nat} {ret : Option FieldType} {hh : List (Nat × Nat × Nat × Nat)} {ws : List Cond} {rm : Room} {Pc : Array Value → State → Prop} {Qc : Array Value → State → Outcome → State → Prop} {free : Addr → Prop} {Ts : List Cond} {own : String} {As rest : List Value} {g : JFrame}
    (S : CallFix p m c cc nL s args Ts own) (hM : Met l y ws rm Pc Qc mc ms free) (cw : vx_CSW R s args own index y bytes maxL ret hh ws rm mc ms n) (hp : PreS s H Pc As)
    (hg : g.method = m) (hn : As.length = n) (hsize : g.locals.size = nL) (hstack : g.stack = As.reverse ++ rest) (hW : 2 * g.monitorRoom + (rest.map fun v => v.category).sum ≤ 8) (hdg : decode cc g.pc = .ok (.invokestatic index, 3)) (hf : cells + mc ≤ R.cells ∧ slots + ms ≤ R.slots) :
    va_Run p l e R s m args below meth c H locs cells slots mc ms g rest (Qc As.toArray) (free) := by
  obtain ⟨⟨hrc, hrs, hfr, hlo, hws, hcw⟩, hcode, hini, hy, hlen, hl, hstt⟩ := cw
  have hK : Back l R p e below s args y 3 8 (PreOf R mc ms Pc) (PostOf Qc mc ms free) := va_backW (hh := hh) (bytes := bytes) (maxL := maxL) (ret := ret) hM hp.1 hrc hrs hfr hlo hws hcw (fun a' U hW => word_at hW (Or.inl (by first | rfl | simp [Cond.onTables, Cond.keeps, Cond.steady])) hini)
  obtain ⟨hx, hb, hml, ho, -⟩ := S
  intro T hT X
  obtain ⟨v, vm₁, ⟨U', l2, c2, s2⟩, hW₁, X', ⟨g', mk, t, L, e1, e2, hq, h1, hL, h2, h3⟩, st⟩ := vx_callSW X hx (hh := hh) (bytes := bytes) (maxL := maxL) (ret := ret) ho hl hstt hini hcode hy hK hg (hsize.trans hml.symm) (argsL := As) (rest := rest) (fun sig h => hn.trans (hlen sig h)) hstack hW (by rw [hb]; exact hdg)
    (fun vm₁ hW₁ => ⟨hf.1, hf.2, hp.2 (T.setVm vm₁) hT hW₁⟩)
  dsimp only [Pt.U, Pt.locs, Pt.cells, Pt.slots] at X' e1 e2 h1 h2 h3 st
  subst h1; subst h2; subst h3
  exact ⟨v, (T.setVm vm₁).calling g' mk As.toArray, t, U', L, hT, X', hL, e1, e2, hq, st⟩
/-- not caught here, past rows that name other classes: it goes on to the caller -/
theorem vx_outP {p : Program} {l : Launch} {e : Env} {R : Room} {s : State} {m : MethodId} {args : Array Value} {below : List Frame} {meth : Method} {c : Code} {H : Heap} {locs : List Loc} {cells slots : Nat} {free : Addr → Prop} {ls : Array Slot} {rest : List Value} {Qc : Array Value → State → Outcome → State → Prop} {XC : String → State → State → Prop}
    {pc : Nat} {own E : String} {ce : Cell} {q : Addr} {mc ms : Nat} (hown : s.vm.findClass own = some m.cls) (hlocks : meth.locks = false)
    (hpass : ∀ z ∈ c.exceptionTable.toList, covers z pc = false ∨ (z.catchType ≠ 0 ∧ ∃ nm : String, (Cond.classLink own z.catchType nm).before args s = true ∧ va_Nc E nm s)) (hcell : H[q]? = some ce) (hv : ce.vm = .none) (hcl : s.vm.findClass E = some ce.cls)
    (hx : ∀ t : State, t.heap = H → s.vm.Alike t.vm → XC E s t) (hf : ∀ z ∈ locs, free z.base) (hc : cells ≤ mc) (hs : slots ≤ ms) :
    vx_W p l e R s m args below meth c H locs cells slots (vx_MQ below Qc XC args s mc ms free) (F0 m pc ls rest) q := by
  intro T hT X
  have hpl : e.platform.magicAccessors = ({} : Platform).magicAccessors := by rw [X.admits.platform]
  obtain ⟨vm', hW', X', st⟩ := X.outThrough hlocks q (g := F0 m pc ls rest) rfl rfl rfl (cell := ce) (by rw [hT]; exact hcell) (by rw [hv]; rfl)
    (by obtain ⟨k9, h9, -⟩ := Vm.findClass_spec hcl; exact ⟨k9, h9⟩) (fun z hz => by
      rcases hpass z hz with h | ⟨hz0, nm, hl1, hn1⟩
      · exact Or.inl h
      · obtain ⟨c6, hc6, hcl6⟩ := Cond.classLink_spec hown hl1 e.platform hpl
        obtain ⟨a8, b8, h1, h2, h3⟩ := hn1
        cases Option.some.inj (h1.symm.trans hcl)
        cases Option.some.inj (h2.symm.trans hc6)
        exact Or.inr ⟨hz0, _, hcl6, h3⟩)
  obtain ⟨g₀, hfr⟩ := X'.frames_eq
  have hcell9 : ((T.setVm vm').setFrames (.throwing q :: below)).heap[q]? = some ce := by
    show T.heap[q]? = some ce
    rw [hT]; exact hcell
  have hend : Ended ((T.setVm vm').setFrames (.throwing q :: below)) below (.threw q) := State.frames_setFrames _ (State.cur_lt_of_frames hfr)
  refine ⟨(T.setVm vm').setFrames (.throwing q :: below), ?_, .threw q, X'.here.running, hend, Or.inr ⟨q, rfl, E, ce, locs, hx _ hT (X'.ends _).1.alike, hcell9, hv, hcl, (X'.ends _).1, (X'.ends _).2.mono hc hs, hf⟩⟩
  rw [X.pushThrowing_eq]
  exact st
/-- a thing of a world lies in the heap -/
theorem vx_lt {D : va_G} {cl : List vw_C} {ws : va_W} {H1 : Heap} (h : va_P D cl ws H1) {k : Nat} {q : Nat × va_E} (hk : ws[k]? = some q) : q.1 < H1.size := (h k q hk).lt
end VXS
/-! ===== END ===== -/
/-! ===== BEGIN methods with a table of their own: called by a name, returning or throwing ===== -/
section VXH
/-! vx_backW, vx_callVX, vx_callSX, vx_callVW, vx_runVW, vx_runVX, vx_runSX, vx_ofWH follow the same proofs as their sisters above (Free/Laws.lean, Shelf42/LK1.lean); vx_outP calls Shelf42/NT130.lean (outThrough). -/
section
variable {l : Launch} {R : Room} {p : Program} {e : Env} {below : List Frame} {s : State} {sargs : Array Value} {y : MethodName} {len W9 : Nat}
theorem vx_backW {ws : List Cond} {rm : Room} {Pc : Array Value → State → Prop} {Qc : Array Value → State → Outcome → State → Prop} {XC : String → State → State → Prop} {mc ms : Nat} {free : Addr → Prop} {bytes : ByteArray} {maxL : Nat} {ret : Option FieldType} {hh : List (Nat × Nat × Nat × Nat)}
    (hM : vx_Met l y ws rm Pc Qc XC mc ms free) (hblind : FrameBlind Pc) (hrc : rm.cells = mc) (hrs : rm.slots = ms)
    (hframes : rm.frames + 1 ≤ R.frames) (hlocals : W9 + (maxL + 11) + rm.locals ≤ R.locals)
    (hws : ∀ w ∈ ws, ∀ a' U, s.WarmedH U.vm → w.before a' U = true) (hcode : Cond.codeWith y bytes maxL ret hh ∈ ws) (hinit : ∀ a' U, s.WarmedH U.vm → (Cond.initialized y.cls).before a' U = true) :
    vx_Back l R p e below s sargs y len W9 (PreOf R mc ms Pc) (PostOf Qc mc ms free) (vx_Post XC mc ms free) := by
  intro m meth c A g ig mk a X hg hsize hdg hW hn hp
  have h1 : (headSpec ws rm).pre.before a A.U = true := atoms_intro fun w hw => hws w hw _ _ X.warmed
  have h2 : (Cond.codeWith y bytes maxL ret hh).before a A.U = true := hws _ hcode _ _ X.warmed
  have h3 : (Cond.initialized y.cls).before a A.U = true := hinit _ _ X.warmed
  have h4 : A.cells + (headSpec ws rm).room.cells ≤ R.cells := by rw [show (headSpec ws rm).room.cells = mc from hrc]; exact hp.1
  have h5 : A.slots + (headSpec ws rm).room.slots ≤ R.slots := by rw [show (headSpec ws rm).room.slots = ms from hrs]; exact hp.2.1
  have hPc : Pc a (A.U.calling g mk a) := hblind _ _ _ _ hp.2.2
  obtain ⟨U, Ls, c0, s0⟩ := A
  dsimp only [Pt.U, Pt.locs, Pt.cells, Pt.slots] at h1 h2 h3 h4 h5 X hn hPc ⊢
  obtain ⟨m9, methY, cY, hn9, hmY, hcY, -, hlY, -⟩ := Cond.codeWith_spec h2
  cases Option.some.inj (hn9.symm.trans hn)
  obtain ⟨kY, hkY, -⟩ := className_of_methodNamed hn
  have hinitY : kY.init = .initialized := Cond.initialized_spec (findClass_of_methodNamed hn) hkY h3
  have h : At U g.method c below := by rw [hg]; exact X.here
  have hlocals9 : W9 + (maxL + 11) + (headSpec ws rm).room.locals ≤ R.locals := hlocals
  have happ : (headSpec ws rm).appliesLoose y e.platform (U.calling g mk a) = true :=
    Spec.appliesLoose_calling (g := g) h hdg hn hkY hinitY
      (X.room_calling (g := g) (R' := (headSpec ws rm).room) hsize hmY hcY hframes (by rw [hlY]; omega) h4 h5) h1
  obtain ⟨mid, hmid⟩ := h.above
  have hfr : (U.setTop g).frames = (.java g :: mid) ++ below := by rw [State.frames_setTop' g h.top, hmid]; rfl
  obtain ⟨o, s₂, hsteps, -, hend, hq⟩ := Steps.callFree hM p X.admits X.cas X.clock (acts := []) hfr happ hPc trivial
  have hq' : vx_Q Qc XC mc ms free a (U.calling g mk a) o s₂ := hq
  rw [State.frames_setTop' g h.top] at hend
  obtain ⟨g₀, hg0⟩ := Option.isSome_iff_exists.mp h.top
  obtain ⟨r, hr⟩ := State.topJava?_eq_some.mp hg0
  have hr' : (({ U with heap := s₂.heap, slotsUsed := s₂.slotsUsed } : State).setVm s₂.vm).frames = .java g₀ :: r := hr
  rcases hq' with ⟨hqc, L, hfe, hL⟩ | ⟨q, rfl, E, ce, L, hx, hce, hcv, hcl, hW₂, hsm, hL⟩
  · obtain ⟨⟨v, rfl⟩, hW₂, e2, q2, q3, q4, q5, q6⟩ := id hfe
    have e3 : s₂ = ({ (U.calling g mk a).setFrames s₂.frames with heap := s₂.heap, slotsUsed := s₂.slotsUsed } : State).setVm s₂.vm := by
      have : s₂ = ({ s₂ with vm := (U.calling g mk a).vm } : State).setVm s₂.vm := rfl
      rw [e2] at this
      exact this
    obtain ⟨c₂, i₂, len₂, hc₂, hd₂, hf₂⟩ := hend
    have hW' : U.WarmedH s₂.vm := hW₂
    have hcc : c₂ = c := by
      have h1 : s₂.code? g.method = U.code? g.method := by
        rw [State.code?_eq, State.code?_eq, hW'.alike.method?]
      exact Option.some.inj (hc₂.symm.trans (h1.trans h.code))
    subst hcc
    have hlen : len₂ = len := by rw [hdg] at hd₂; cases hd₂; rfl
    subst hlen
    have hs₂ : s₂ = (({ U with heap := s₂.heap, slotsUsed := s₂.slotsUsed } : State).setVm s₂.vm).setTop { g with pc := g.pc + len₂, stack := v.toList ++ g.stack } := by
      refine e3.trans ?_
      rw [hf₂, State.calling_eq h.top, State.setFrames_setFrames, State.setTop_of_frames _ hr', hr]
      rfl
    have hsame : U.sameButNew ({ U with heap := s₂.heap, slotsUsed := s₂.slotsUsed } : State) L mc ms := by
      refine ⟨?_, q2, q3, q4, q5, q6⟩
      obtain ⟨t, ht, -⟩ := State.frames_cons hr
      show ({ U with heap := s₂.heap, slotsUsed := s₂.slotsUsed } : State) = { U.setFrames U.frames with heap := s₂.heap, slotsUsed := s₂.slotsUsed }
      rw [State.setFrames_self ht]
    subst hg
    refine Or.inl ⟨v, ⟨(({ U with heap := s₂.heap, slotsUsed := s₂.slotsUsed } : State).setVm s₂.vm), Ls ++ L, c0 + mc, s0 + ms⟩,
      ⟨X.admits, X.cas, X.clock, X.frames, X.room, X.hears, X.method, X.code, (X.here.setHeapUsed s₂.heap s₂.slotsUsed).setVm hW'.alike, X.tail, State.WarmedH.trans X.warmed hW', X.limits, X.bytes, X.same.trans (hsame.setVm s.vm)⟩,
      ⟨g, mk, s₂, L, rfl, rfl, hqc, rfl, hL, rfl, rfl⟩, ?_⟩
    show Steps p.tables e below _ ((({ U with heap := s₂.heap, slotsUsed := s₂.slotsUsed } : State).setVm s₂.vm).setTop { g with pc := g.pc + len₂, stack := v.toList ++ g.stack })
    rw [← hs₂]
    exact hsteps
  · obtain ⟨e2, q2, q3, q4, q5, q6⟩ := id hsm
    have e3 : s₂ = ({ (U.calling g mk a).setFrames s₂.frames with heap := s₂.heap, slotsUsed := s₂.slotsUsed } : State).setVm s₂.vm := by
      have : s₂ = ({ s₂ with vm := (U.calling g mk a).vm } : State).setVm s₂.vm := rfl
      rw [e2] at this
      exact this
    have hf₂ : s₂.frames = .throwing q :: .java g :: U.frames.tail := hend
    have hW' : U.WarmedH s₂.vm := hW₂
    have hs₂ : s₂ = ((({ U with heap := s₂.heap, slotsUsed := s₂.slotsUsed } : State).setVm s₂.vm).setTop g).pushFrame (.throwing q) := by
      refine e3.trans ?_
      rw [hf₂, State.calling_eq h.top, State.setFrames_setFrames, State.pushFrame, State.frames_setTop _ hr', State.setTop_of_frames _ hr', State.setFrames_setFrames, hr]
      rfl
    have hsame : U.sameButNew ({ U with heap := s₂.heap, slotsUsed := s₂.slotsUsed } : State) L mc ms := by
      refine ⟨?_, q2, q3, q4, q5, q6⟩
      obtain ⟨t, ht, -⟩ := State.frames_cons hr
      show ({ U with heap := s₂.heap, slotsUsed := s₂.slotsUsed } : State) = { U.setFrames U.frames with heap := s₂.heap, slotsUsed := s₂.slotsUsed }
      rw [State.setFrames_self ht]
    subst hg
    refine Or.inr ⟨q, ⟨(({ U with heap := s₂.heap, slotsUsed := s₂.slotsUsed } : State).setVm s₂.vm), Ls ++ L, c0 + mc, s0 + ms⟩,
      ⟨X.admits, X.cas, X.clock, X.frames, X.room, X.hears, X.method, X.code, (X.here.setHeapUsed s₂.heap s₂.slotsUsed).setVm hW'.alike, X.tail, State.WarmedH.trans X.warmed hW', X.limits, X.bytes, X.same.trans (hsame.setVm s.vm)⟩,
      ⟨g, mk, s₂, L, E, ce, rfl, rfl, hx, hce, hcv, hcl, rfl, hL, rfl, rfl⟩, ?_⟩
    show Steps p.tables e below _ (((({ U with heap := s₂.heap, slotsUsed := s₂.slotsUsed } : State).setVm s₂.vm).setTop g).pushFrame (.throwing q))
    rw [← hs₂]
    exact hsteps
end
variable {p : Program} {l : Launch} {e : Env} {R : Room} {s : State} {m : MethodId} {args : Array Value} {below : List Frame} {meth : Method} {c : Code} {T : State} {H : Heap} {locs : List Loc} {cells slots : Nat}
theorem vx_callVX (X : Stand p l e R s m args below meth c T locs cells slots) (hexec : p.tables.exec = Jvm.exec) {own C : String} {index : Nat} {y : MethodName} {bytes : ByteArray} {maxL : Nat} {ret : Option FieldType} {hh : List (Nat × Nat × Nat × Nat)}
    (hown : s.vm.findClass own = some m.cls) (hlink : (Cond.methodLink own index y).before args s = true) (hinst : (Cond.instanceMethod y).before args s = true) (hsel : (Cond.selects C y y).before args s = true)
    (hcode : (Cond.codeWith y bytes maxL ret hh).before args s = true) (hy : y.cls ≠ "java/lang/invoke/MethodHandle" ∧ y.cls ≠ "java/lang/invoke/VarHandle")
    {W9 : Nat} {Pre : Pt → Array Value → Prop} {Post : Pt → Array Value → Option Value → Pt → Prop} {PostX : Pt → Array Value → Addr → Pt → Prop} (hK : vx_Back l R p e below s args y 3 W9 Pre Post PostX)
    {b : Addr} {cellB : Cell} (hcell : T.heap[b]? = some cellB) (hobj : cellB.vm.isStatics = false) (hcls : s.vm.findClass C = some cellB.cls)
    {g : JFrame} (hg : g.method = m) (hsize : g.locals.size = c.maxLocals) {argsL rest : List Value} (hlen : ∀ sig, parseMethodDescriptor y.desc = some sig → argsL.length = sig.parameters.length)
    (hstack : g.stack = argsL.reverse ++ .ref b :: rest) (hW : 2 * g.monitorRoom + (rest.map fun v => v.category).sum ≤ W9) (hdg : decode c.code g.pc = .ok (.invokevirtual index, 3))
    (hpre : ∀ vm₁, s.WarmedH vm₁ → Pre ⟨T.setVm vm₁, locs, cells, slots⟩ (Value.ref b :: argsL).toArray) :
    (∃ (v : Option Value) (vm₁ : Vm) (B : Pt), s.WarmedH vm₁ ∧ Stand p l e R s m args below meth c B.U B.locs B.cells B.slots ∧ Post ⟨T.setVm vm₁, locs, cells, slots⟩ (Value.ref b :: argsL).toArray v B ∧
      ∀ target, Steps p.tables e below (B.U.setTop { g with pc := g.pc + 3, stack := v.toList ++ rest }) target → Steps p.tables e below (T.setTop g) target) ∨
    (∃ (q : Addr) (vm₁ : Vm) (B : Pt), s.WarmedH vm₁ ∧ Stand p l e R s m args below meth c B.U B.locs B.cells B.slots ∧ PostX ⟨T.setVm vm₁, locs, cells, slots⟩ (Value.ref b :: argsL).toArray q B ∧
      Steps p.tables e below (T.setTop g) ((B.U.setTop { g with stack := rest }).pushFrame (.throwing q))) := by
  obtain ⟨mk, methM, hnamed, hmethM, hstM, habM⟩ := Cond.instanceMethod_spec hinst
  obtain ⟨m8, methM', cM, hn8, hmethM', -, -, -, -, -, -, hsigM⟩ := Cond.codeWith_spec hcode
  cases Option.some.inj (hn8.symm.trans hnamed)
  cases hmethM.symm.trans hmethM'
  obtain ⟨c2, r2, m2, q1, q2, q3, q4, kP, hkP, hkPi⟩ := Cond.selects_spec hsel
  cases hcls.symm.trans q1
  cases (State.methodFound?_of_named hnamed hy).symm.trans q2
  cases hnamed.symm.trans q3
  have hselP : selectMethod e.platform s.vm cellB.cls mk = .method mk := by rw [Launch.admits_selectMethod X.admits]; exact q4
  obtain ⟨vm₁, X₁, hstep₁⟩ := X.invokevirtual hexec hown hlink hnamed hmethM hstM hkP hkPi hy (a := b) (cell := cellB) hcell
    (fun z h => by rw [h] at hobj; cases hobj) hselP hmethM habM hkP hkPi (g := g) hg (argsL := argsL) (rest := rest) (hlen _ hsigM) hstack hdg
  rcases hK m meth c ⟨T.setVm vm₁, locs, cells, slots⟩ { g with stack := rest } (.invokevirtual index) mk (Value.ref b :: argsL).toArray X₁ hg hsize hdg hW (X₁.named hnamed) (hpre vm₁ X₁.warmed) with ⟨v, B, X', hpost, hsteps⟩ | ⟨q, B, X', hpost, hsteps⟩
  · exact Or.inl ⟨v, vm₁, B, X₁.warmed, X', hpost, fun target h => hstep₁ _ fun acts => by rw [doInvoke_state]; exact hsteps.trans h⟩
  · exact Or.inr ⟨q, vm₁, B, X₁.warmed, X', hpost, hstep₁ _ fun acts => by rw [doInvoke_state]; exact hsteps⟩
theorem vx_callSX (X : Stand p l e R s m args below meth c T locs cells slots) (hexec : p.tables.exec = Jvm.exec) {own : String} {index : Nat} {y : MethodName} {bytes : ByteArray} {maxL : Nat} {ret : Option FieldType} {hh : List (Nat × Nat × Nat × Nat)}
    (hown : s.vm.findClass own = some m.cls) (hlink : (Cond.methodLink own index y).before args s = true) (hstat : (Cond.static y).before args s = true) (hinit : (Cond.initialized y.cls).before args s = true)
    (hcode : (Cond.codeWith y bytes maxL ret hh).before args s = true) (hy : y.cls ≠ "java/lang/invoke/MethodHandle" ∧ y.cls ≠ "java/lang/invoke/VarHandle")
    {W9 : Nat} {Pre : Pt → Array Value → Prop} {Post : Pt → Array Value → Option Value → Pt → Prop} {PostX : Pt → Array Value → Addr → Pt → Prop} (hK : vx_Back l R p e below s args y 3 W9 Pre Post PostX)
    {g : JFrame} (hg : g.method = m) (hsize : g.locals.size = c.maxLocals) {argsL rest : List Value} (hlen : ∀ sig, parseMethodDescriptor y.desc = some sig → argsL.length = sig.parameters.length)
    (hstack : g.stack = argsL.reverse ++ rest) (hW : 2 * g.monitorRoom + (rest.map fun v => v.category).sum ≤ W9) (hdg : decode c.code g.pc = .ok (.invokestatic index, 3))
    (hpre : ∀ vm₁, s.WarmedH vm₁ → Pre ⟨T.setVm vm₁, locs, cells, slots⟩ argsL.toArray) :
    (∃ (v : Option Value) (vm₁ : Vm) (B : Pt), s.WarmedH vm₁ ∧ Stand p l e R s m args below meth c B.U B.locs B.cells B.slots ∧ Post ⟨T.setVm vm₁, locs, cells, slots⟩ argsL.toArray v B ∧
      ∀ target, Steps p.tables e below (B.U.setTop { g with pc := g.pc + 3, stack := v.toList ++ rest }) target → Steps p.tables e below (T.setTop g) target) ∨
    (∃ (q : Addr) (vm₁ : Vm) (B : Pt), s.WarmedH vm₁ ∧ Stand p l e R s m args below meth c B.U B.locs B.cells B.slots ∧ PostX ⟨T.setVm vm₁, locs, cells, slots⟩ argsL.toArray q B ∧
      Steps p.tables e below (T.setTop g) ((B.U.setTop { g with stack := rest }).pushFrame (.throwing q))) := by
  obtain ⟨mk, methM, cM, hnamed, hmethM, -, -, -, -, -, -, hsigM⟩ := Cond.codeWith_spec hcode
  have hstatic : methM.isStatic = true := Cond.static_spec hnamed hmethM hstat
  obtain ⟨kP, hkP, -⟩ := className_of_methodNamed hnamed
  have hinitP : kP.init = .initialized := Cond.initialized_spec (findClass_of_methodNamed hnamed) hkP hinit
  obtain ⟨vm₁, X₁, hstep₁⟩ := X.invokestatic hexec hown hlink hnamed hmethM hstatic hkP hinitP hy (g := g) hg (argsL := argsL) (rest := rest) (hlen _ hsigM) hstack hdg
  rcases hK m meth c ⟨T.setVm vm₁, locs, cells, slots⟩ { g with stack := rest } (.invokestatic index) mk argsL.toArray X₁ hg hsize hdg hW (X₁.named hnamed) (hpre vm₁ X₁.warmed) with ⟨v, B, X', hpost, hsteps⟩ | ⟨q, B, X', hpost, hsteps⟩
  · exact Or.inl ⟨v, vm₁, B, X₁.warmed, X', hpost, fun target h => hstep₁ _ fun acts => by rw [doInvoke_state]; exact hsteps.trans h⟩
  · exact Or.inr ⟨q, vm₁, B, X₁.warmed, X', hpost, hstep₁ _ fun acts => by rw [doInvoke_state]; exact hsteps⟩
theorem vx_callVW (X : Stand p l e R s m args below meth c T locs cells slots) (hexec : p.tables.exec = Jvm.exec) {own C : String} {index : Nat} {y : MethodName} {bytes : ByteArray} {maxL : Nat} {ret : Option FieldType} {hh : List (Nat × Nat × Nat × Nat)}
    (hown : s.vm.findClass own = some m.cls) (hlink : (Cond.methodLink own index y).before args s = true) (hinst : (Cond.instanceMethod y).before args s = true) (hsel : (Cond.selects C y y).before args s = true)
    (hcode : (Cond.codeWith y bytes maxL ret hh).before args s = true) (hy : y.cls ≠ "java/lang/invoke/MethodHandle" ∧ y.cls ≠ "java/lang/invoke/VarHandle")
    {W9 : Nat} {Pre : Pt → Array Value → Prop} {Post : Pt → Array Value → Option Value → Pt → Prop} (hK : Back l R p e below s args y 3 W9 Pre Post)
    {b : Addr} {cellB : Cell} (hcell : T.heap[b]? = some cellB) (hobj : cellB.vm.isStatics = false) (hcls : s.vm.findClass C = some cellB.cls)
    {g : JFrame} (hg : g.method = m) (hsize : g.locals.size = c.maxLocals) {argsL rest : List Value} (hlen : ∀ sig, parseMethodDescriptor y.desc = some sig → argsL.length = sig.parameters.length)
    (hstack : g.stack = argsL.reverse ++ .ref b :: rest) (hW : 2 * g.monitorRoom + (rest.map fun v => v.category).sum ≤ W9) (hdg : decode c.code g.pc = .ok (.invokevirtual index, 3))
    (hpre : ∀ vm₁, s.WarmedH vm₁ → Pre ⟨T.setVm vm₁, locs, cells, slots⟩ (Value.ref b :: argsL).toArray) :
    ∃ (v : Option Value) (vm₁ : Vm) (B : Pt), s.WarmedH vm₁ ∧ Stand p l e R s m args below meth c B.U B.locs B.cells B.slots ∧ Post ⟨T.setVm vm₁, locs, cells, slots⟩ (Value.ref b :: argsL).toArray v B ∧
      ∀ target, Steps p.tables e below (B.U.setTop { g with pc := g.pc + 3, stack := v.toList ++ rest }) target → Steps p.tables e below (T.setTop g) target := by
  obtain ⟨mk, methM, hnamed, hmethM, hstM, habM⟩ := Cond.instanceMethod_spec hinst
  obtain ⟨m8, methM', cM, hn8, hmethM', -, -, -, -, -, -, hsigM⟩ := Cond.codeWith_spec hcode
  cases Option.some.inj (hn8.symm.trans hnamed)
  cases hmethM.symm.trans hmethM'
  obtain ⟨c2, r2, m2, q1, q2, q3, q4, kP, hkP, hkPi⟩ := Cond.selects_spec hsel
  cases hcls.symm.trans q1
  cases (State.methodFound?_of_named hnamed hy).symm.trans q2
  cases hnamed.symm.trans q3
  have hselP : selectMethod e.platform s.vm cellB.cls mk = .method mk := by rw [Launch.admits_selectMethod X.admits]; exact q4
  obtain ⟨vm₁, X₁, hstep₁⟩ := X.invokevirtual hexec hown hlink hnamed hmethM hstM hkP hkPi hy (a := b) (cell := cellB) hcell
    (fun z h => by rw [h] at hobj; cases hobj) hselP hmethM habM hkP hkPi (g := g) hg (argsL := argsL) (rest := rest) (hlen _ hsigM) hstack hdg
  obtain ⟨v, B, X', hpost, hsteps⟩ := hK m meth c ⟨T.setVm vm₁, locs, cells, slots⟩ { g with stack := rest } (.invokevirtual index) mk (Value.ref b :: argsL).toArray X₁ hg hsize hdg hW (X₁.named hnamed) (hpre vm₁ X₁.warmed)
  exact ⟨v, vm₁, B, X₁.warmed, X', hpost, fun target h => hstep₁ _ fun acts => by rw [doInvoke_state]; exact hsteps.trans h⟩
abbrev vx_CVW (R : Room) (s : State) (args : Array Value) (own C : String) (index : Nat) (y : MethodName) (bytes : ByteArray) (maxL : Nat) (ret : Option FieldType) (hh : List (Nat × Nat × Nat × Nat)) (ws : List Cond) (rm : Room) (mc ms n : Nat) : Prop :=
  (rm.cells = mc ∧ rm.slots = ms ∧ rm.frames + 1 ≤ R.frames ∧ 8 + (maxL + 11) + rm.locals ≤ R.locals ∧ (∀ w ∈ ws, ∀ (a' : Array Value) (U : State), s.WarmedH U.vm → w.before a' U = true) ∧ Cond.codeWith y bytes maxL ret hh ∈ ws) ∧
  (Cond.codeWith y bytes maxL ret hh).before args s = true ∧ (Cond.initialized y.cls).before args s = true ∧ (y.cls ≠ "java/lang/invoke/MethodHandle" ∧ y.cls ≠ "java/lang/invoke/VarHandle") ∧
  (∀ sig, parseMethodDescriptor y.desc = some sig → n = sig.parameters.length) ∧ (Cond.methodLink own index y).before args s = true ∧ (Cond.instanceMethod y).before args s = true ∧ (Cond.selects C y y).before args s = true
theorem vx_cwVW {own C : String} {index maxL mc ms : Nat} {y : MethodName} {bytes : ByteArray} {ret : Option FieldType} {hh : List (Nat × Nat × Nat × Nat)} {Ts ws ws' : List Cond} {rm : Room} (n : Nat) (ht : ∀ w ∈ Ts, w.before args s = true) (hT : GoodIn Ts (wsV own index C y ws)) (hw : ws = Cond.codeWith y bytes maxL ret hh :: ws') (hrc : rm.cells = mc) (hrs : rm.slots = ms)
    (hd : y.cls = C ∧ y.cls ≠ "java/lang/invoke/MethodHandle" ∧ y.cls ≠ "java/lang/invoke/VarHandle" ∧ (parseMethodDescriptor y.desc).map (fun d => d.parameters.length) = some n) (hR : rm.frames + 1 ≤ R.frames ∧ 8 + (maxL + 11) + rm.locals ≤ R.locals) :
    vx_CVW R s args own C index y bytes maxL ret hh ws rm mc ms n := by
  obtain ⟨hC, hd⟩ := hd
  subst hC
  have ok : ∀ w ∈ wsV own index y.cls y ws, w.before args s = true := fun w h => ht w (hT w h).1
  have hG : GoodIn Ts ws := fun w h => hT w (by unfold wsV; exact List.mem_append_right _ h)
  have hc : Cond.codeWith y bytes maxL ret hh ∈ ws := by rw [hw]; exact List.mem_cons_self
  refine ⟨⟨hrc, hrs, hR.1, hR.2, pay_in ht hG, hc⟩, ht _ (hG _ hc).1, ok _ (by simp [wsV]), ⟨hd.1, hd.2.1⟩, fun sig h => ?_, ok _ (by simp [wsV]), ok _ (by simp [wsV]), ok _ (by simp [wsV])⟩
  have h2 := hd.2.2
  rw [h] at h2
  exact (Option.some.inj h2).symm
theorem vx_runVW {y : MethodName} {bytes cc : ByteArray} {maxL nL mc ms n index : Nat} {ret : Option FieldType} {hh : List (Nat × Nat × Nat × Nat)} {ws : List Cond} {rm : Room} {Pc : Array Value → State → Prop} {Qc : Array Value → State → Outcome → State → Prop} {free : Addr → Prop} {Ts : List Cond} {own C : String} {b : Addr} {As rest : List Value} {g : JFrame}
    (S : CallFix p m c cc nL s args Ts own) (hM : Met l y ws rm Pc Qc mc ms free) (cw : vx_CVW R s args own C index y bytes maxL ret hh ws rm mc ms n) (hp : PreV s H C b Pc As)
    (hg : g.method = m) (hn : As.length = n) (hsize : g.locals.size = nL) (hstack : g.stack = As.reverse ++ .ref b :: rest) (hW : 2 * g.monitorRoom + (rest.map fun v => v.category).sum ≤ 8) (hdg : decode cc g.pc = .ok (.invokevirtual index, 3)) (hf : cells + mc ≤ R.cells ∧ slots + ms ≤ R.slots) :
    va_Run p l e R s m args below meth c H locs cells slots mc ms g rest (Qc (Value.ref b :: As).toArray) free := by
  obtain ⟨⟨hrc, hrs, hfr, hlo, hws, hcw⟩, hcode, hini, hy, hlen, hl, hin, hse⟩ := cw
  have hK : Back l R p e below s args y 3 8 (PreOf R mc ms Pc) (PostOf Qc mc ms free) := va_backW (hh := hh) (bytes := bytes) (maxL := maxL) (ret := ret) hM hp.1 hrc hrs hfr hlo hws hcw (fun a' U hW => word_at hW (Or.inl (by first | rfl | simp [Cond.onTables, Cond.keeps, Cond.steady])) hini)
  obtain ⟨hx, hb, hml, ho, -⟩ := S
  obtain ⟨-, ⟨cellB, hcB, hoB, hclB⟩, hPc⟩ := hp
  intro T hT X
  obtain ⟨v, vm₁, ⟨U', l2, c2, s2⟩, hW₁, X', ⟨g', mk, t, L, e1, e2, hq, h1, hL, h2, h3⟩, st⟩ := vx_callVW X hx (C := C) (hh := hh) (bytes := bytes) (maxL := maxL) (ret := ret) ho hl hin hse hcode hy hK (by rw [hT]; exact hcB) hoB hclB hg (hsize.trans hml.symm) (argsL := As) (rest := rest) (fun sig h => hn.trans (hlen sig h)) hstack hW (by rw [hb]; exact hdg)
    (fun vm₁ hW₁ => ⟨hf.1, hf.2, hPc (T.setVm vm₁) hT hW₁⟩)
  dsimp only [Pt.U, Pt.locs, Pt.cells, Pt.slots] at X' e1 e2 h1 h2 h3 st
  subst h1; subst h2; subst h3
  exact ⟨v, (T.setVm vm₁).calling g' mk (Value.ref b :: As).toArray, t, U', L, hT, X', hL, e1, e2, hq, st⟩
section
variable {y : MethodName} {bytes cc : ByteArray} {maxL nL mc ms n index : Nat} {ret : Option FieldType} {ws : List Cond} {rm : Room} {Pc : Array Value → State → Prop} {Qc : Array Value → State → Outcome → State → Prop} {XC : String → State → State → Prop} {free : Addr → Prop} {Ts : List Cond} {own C : String} {b : Addr} {As rest : List Value} {g : JFrame}
theorem vx_runVX {hh : List (Nat × Nat × Nat × Nat)} (S : CallFix p m c cc nL s args Ts own) (hM : vx_Met l y ws rm Pc Qc XC mc ms free) (cw : vx_CVW R s args own C index y bytes maxL ret hh ws rm mc ms n) (hp : PreV s H C b Pc As)
    (hg : g.method = m) (hn : As.length = n) (hsize : g.locals.size = nL) (hstack : g.stack = As.reverse ++ .ref b :: rest) (hW : 2 * g.monitorRoom + (rest.map fun v => v.category).sum ≤ 8) (hdg : decode cc g.pc = .ok (.invokevirtual index, 3)) (hf : cells + mc ≤ R.cells ∧ slots + ms ≤ R.slots) :
    vx_Run p l e R s m args below meth c H locs cells slots mc ms g rest (Qc (Value.ref b :: As).toArray) XC free := by
  obtain ⟨⟨hrc, hrs, hfr, hlo, hws, hcw⟩, hcode, hini, hy, hlen, hl, hin, hse⟩ := cw
  have hK : vx_Back l R p e below s args y 3 8 (PreOf R mc ms Pc) (PostOf Qc mc ms free) (vx_Post XC mc ms free) := vx_backW (hh := hh) (bytes := bytes) (maxL := maxL) (ret := ret) hM hp.1 hrc hrs hfr hlo hws hcw (fun a' U hW => word_at hW (Or.inl (by first | rfl | simp [Cond.onTables, Cond.keeps, Cond.steady])) hini)
  obtain ⟨hx, hb, hml, ho, -⟩ := S
  obtain ⟨-, ⟨cellB, hcB, hoB, hclB⟩, hPc⟩ := hp
  intro T hT X
  rcases vx_callVX X hx (C := C) (hh := hh) (bytes := bytes) (maxL := maxL) (ret := ret) ho hl hin hse hcode hy hK (by rw [hT]; exact hcB) hoB hclB hg (hsize.trans hml.symm) (argsL := As) (rest := rest) (fun sig h => hn.trans (hlen sig h)) hstack hW (by rw [hb]; exact hdg)
    (fun vm₁ hW₁ => ⟨hf.1, hf.2, hPc (T.setVm vm₁) hT hW₁⟩) with ⟨v, vm₁, ⟨U', l2, c2, s2⟩, hW₁, X', ⟨g', mk, t, L, e1, e2, hq, h1, hL, h2, h3⟩, st⟩ | ⟨q, vm₁, ⟨U', l2, c2, s2⟩, hW₁, X', ⟨g', mk, t, L, E, ce, e1, e2, hq, hce, hcv, hcl, h1, hL, h2, h3⟩, st⟩
  · dsimp only [Pt.U, Pt.locs, Pt.cells, Pt.slots] at X' e1 e2 h1 h2 h3 st
    subst h1; subst h2; subst h3
    exact Or.inl ⟨v, (T.setVm vm₁).calling g' mk (Value.ref b :: As).toArray, t, U', L, hT, X', hL, e1, e2, hq, st⟩
  · dsimp only [Pt.U, Pt.locs, Pt.cells, Pt.slots] at X' e1 e2 h1 h2 h3 st hcl
    subst h1; subst h2; subst h3
    exact Or.inr ⟨q, (T.setVm vm₁).calling g' mk (Value.ref b :: As).toArray, t, U', L, E, ce, hT, X', hL, e1, e2, hq, hce, hcv, vx_cls hW₁ hcl, st⟩
theorem vx_runSX {hh : List (Nat × Nat × Nat × Nat)} (S : CallFix p m c cc nL s args Ts own) (hM : vx_Met l y ws rm Pc Qc XC mc ms free) (cw : vx_CSW R s args own index y bytes maxL ret hh ws rm mc ms n) (hp : PreS s H Pc As)
    (hg : g.method = m) (hn : As.length = n) (hsize : g.locals.size = nL) (hstack : g.stack = As.reverse ++ rest) (hW : 2 * g.monitorRoom + (rest.map fun v => v.category).sum ≤ 8) (hdg : decode cc g.pc = .ok (.invokestatic index, 3)) (hf : cells + mc ≤ R.cells ∧ slots + ms ≤ R.slots) :
    vx_Run p l e R s m args below meth c H locs cells slots mc ms g rest (Qc As.toArray) XC free := by
  obtain ⟨⟨hrc, hrs, hfr, hlo, hws, hcw⟩, hcode, hini, hy, hlen, hl, hstt⟩ := cw
  have hK : vx_Back l R p e below s args y 3 8 (PreOf R mc ms Pc) (PostOf Qc mc ms free) (vx_Post XC mc ms free) := vx_backW (hh := hh) (bytes := bytes) (maxL := maxL) (ret := ret) hM hp.1 hrc hrs hfr hlo hws hcw (fun a' U hW => word_at hW (Or.inl (by first | rfl | simp [Cond.onTables, Cond.keeps, Cond.steady])) hini)
  obtain ⟨hx, hb, hml, ho, -⟩ := S
  intro T hT X
  rcases vx_callSX X hx (hh := hh) (bytes := bytes) (maxL := maxL) (ret := ret) ho hl hstt hini hcode hy hK hg (hsize.trans hml.symm) (argsL := As) (rest := rest) (fun sig h => hn.trans (hlen sig h)) hstack hW (by rw [hb]; exact hdg)
    (fun vm₁ hW₁ => ⟨hf.1, hf.2, hp.2 (T.setVm vm₁) hT hW₁⟩) with ⟨v, vm₁, ⟨U', l2, c2, s2⟩, hW₁, X', ⟨g', mk, t, L, e1, e2, hq, h1, hL, h2, h3⟩, st⟩ | ⟨q, vm₁, ⟨U', l2, c2, s2⟩, hW₁, X', ⟨g', mk, t, L, E, ce, e1, e2, hq, hce, hcv, hcl, h1, hL, h2, h3⟩, st⟩
  · dsimp only [Pt.U, Pt.locs, Pt.cells, Pt.slots] at X' e1 e2 h1 h2 h3 st
    subst h1; subst h2; subst h3
    exact Or.inl ⟨v, (T.setVm vm₁).calling g' mk As.toArray, t, U', L, hT, X', hL, e1, e2, hq, st⟩
  · dsimp only [Pt.U, Pt.locs, Pt.cells, Pt.slots] at X' e1 e2 h1 h2 h3 st hcl
    subst h1; subst h2; subst h3
    exact Or.inr ⟨q, (T.setVm vm₁).calling g' mk As.toArray, t, U', L, E, ce, hT, X', hL, e1, e2, hq, hce, hcv, vx_cls hW₁ hcl, st⟩
end
end VXH
theorem vx_ofWH {l : Launch} {y : MethodName} {ws ws' : List Cond} {rm : Room} {Pc : Array Value → State → Prop} {Qc : Array Value → State → Outcome → State → Prop} {XC : String → State → State → Prop} {mc ms : Nat} {free : Addr → Prop} {cc : ByteArray} {maxL : Nat} {ret : Option FieldType} {hh : List (Nat × Nat × Nat × Nat)}
    (hy : plainName y.cls = true) (hw : ws = Cond.codeWith y cc maxL ret hh :: ws')
    (body : ∀ p e s m args below meth c s₁, BodyLoose p l y (headSpec ws rm) cc maxL ret e s m args below meth c s₁ → c.maxLocals = maxL → Pc args s →
      W p l e (headSpec ws rm).room s m args below meth c s.heap [] 0 0 (vx_MQ below Qc XC args s mc ms free) (entryFrame m args maxL)) : vx_Met l y ws rm Pc Qc XC mc ms free := by
  refine MetFree.of_bodyS (code := cc) (maxLocals := maxL) (ret := ret) hy ?_ ?_
  · intro args s m h hn
    obtain ⟨m9, meth, c, hn9, h1, h2, h3, h4, -, h5, h6, -⟩ := Cond.codeWith_spec (atoms_spec (ws := ws) h _ (by rw [hw]; exact List.mem_cons_self))
    cases hn.symm.trans hn9
    exact ⟨meth, c, h1, h2, h3, h4, h5, h6⟩
  · intro p e s m args below meth c s₁ B hml hP _
    have hh0 : s₁.heap = s.heap := by rw [B.state]; rfl
    obtain ⟨t, a1, o, b1, b2, b3⟩ := body p e s m args below meth c s₁ B hml hP s₁ hh0 (Stand.of_body B)
    exact ⟨t, o, a1, b1, b2, b3⟩
/-! ===== END ===== -/
end
section
/-! THE JUDGEMENT z_V: the machine at a pc, locals and stack as lists, the heap as a shape g (ids, their addresses, kinds, lengths, references) and the numbers σ (id, place). All own rows. -/
abbrev zSh : Type := List Nat × (Nat → Nat) × (Nat → Nat) × (Nat → Nat) × (Nat → Nat → Nat)
abbrev zIn : Type := Nat → Nat → Int32
abbrev zM : Type := MethodName × ByteArray × Nat × Option FieldType × Nat × Nat × Nat × Nat
def lw_good : List Cond := lw_tbl.filter goodWord
def lw_isNest : Cond → Bool
  | .fieldLinkNest _ _ _ _ _ _ => true
  | .methodLinkNest _ _ _ _ => true
  | .arrayOver (.object _) => true
  | _ => false
def lw_nest : List Cond := tables_1.filter lw_isNest
theorem z_gd {w : Cond} (i : Nat) (h : lw_tbl[i]? = some w) (hg : goodWord w = true) : w ∈ lw_good := List.mem_filter.mpr ⟨List.mem_of_getElem? h, hg⟩
theorem z_ns {w : Cond} (i : Nat) (h : tables_1[i]? = some w) (hg : lw_isNest w = true) : w ∈ lw_nest := List.mem_filter.mpr ⟨List.mem_of_getElem? h, hg⟩
theorem lw_nest_warm {s U : State} (hW : s.WarmedH U.vm) (h : ∀ w ∈ lw_nest, va_Nw w s) : ∀ w ∈ lw_nest, va_Nw w U := by
  intro w hw
  have h1 := h w hw
  have h2 := (List.mem_filter.mp hw).2
  cases w <;> first | (exact absurd h2 Bool.false_ne_true) | (exact va_Nw.warmF hW h1) | (exact va_Nw.warmM hW h1) | skip
  case arrayOver t =>
    cases t <;> first | (exact absurd h2 Bool.false_ne_true) | (exact va_AO.moved hW.alike h1)
def z_isr : Nat → List Bool
  | 0 => [true, true, true, true, false, false, false]
  | 1 => [false, false, false, false, false, false]
  | 2 => [true, false]
  | 3 => [false, false, false, false, false, false, true, true, true, false, false, false, false]
  | 4 => [true, true, true, true, false, false, false]
  | 5 => [true, false, false, false]
  | 6 => [true, true, true, true, false, false, false]
  | 7 => [false, false, false, false, false]
  | 8 => [true, true, true, true, true, true, true, false, false, false]
  | 9 => [false, true, false, true, true, false, true, true, true, true, false, true, true, true, true, true, false, true, true, true, true, true, false, true, true, false, false, false, true, true, true, true, true, true, true, true, true, true, true, true, true, true, true, true, true, true, false, false, false]
  | _ => []
def z_aty : Nat → FieldType
  | 0 => .int
  | 1 => .boolean
  | 2 => .long
  | 3 => .object "Codewordcable$Cable"
  | 4 => .object "Codewordcable$Message"
  | 5 => .object "Codewordcable$Office"
  | _ => .object "Codewordcable$Rules"
def z_tys (cy : Nat → ClassId) : List (ClassId × FieldType) := [(cy 0, .int), (cy 1, .boolean), (cy 2, .long), (cy 3, .object "Codewordcable$Cable"), (cy 4, .object "Codewordcable$Message"), (cy 5, .object "Codewordcable$Office"), (cy 6, .object "Codewordcable$Rules")]
/-- a reference by its id; 0: null -/
def z_ro (g : zSh) (j : Nat) : Option Nat := if j = 0 then none else some (g.2.1 j)
def z_rv (g : zSh) (j : Nat) : Value := va_rf (z_ro g j)
def z_cel (cy : Nat → ClassId) (g : zSh) (i : Nat) (f : Nat → Int32) : va_E :=
  if g.2.2.1 i < 10 then .inr (g.2.2.1 i, (z_isr (g.2.2.1 i)).mapIdx (fun k b => if b then z_rv g (g.2.2.2.2 i k) else .int (f k)))
  else if g.2.2.1 i < 12 then .inl (cy (g.2.2.1 i - 10), g.2.2.2.1 i, .inl f)
  else if g.2.2.1 i = 12 then .inl (cy 2, g.2.2.2.1 i, .inr (.inl (fun k => (f k).toInt64)))
  else .inl (cy (g.2.2.1 i - 10), g.2.2.2.1 i, .inr (.inr (.inr (.inr (fun k => z_ro g (g.2.2.2.2 i k))))))
def z_w (cy : Nat → ClassId) (g : zSh) (σ : zIn) : va_W := g.1.map (fun i => (g.2.1 i, z_cel cy g i (σ i)))
def z_A (z0 : Nat) : Nat → Prop := fun q => z0 ≤ q
def z_up (σ : zIn) (i k : Nat) (v : Int32) : zIn := fun i' k' => if i' = i then (if k' = k then v else σ i' k') else σ i' k'
theorem z_up_ne {σ : zIn} {i j k : Nat} {v : Int32} (h : j ≠ i) : z_up σ i k v j = σ j := by funext k'; simp [z_up, h]
theorem z_up_at {σ : zIn} {i k : Nat} {v : Int32} : z_up σ i k v i = upd (σ i) k v := by funext k'; simp [z_up, upd]
theorem z_get_k {cy : Nat → ClassId} {g : zSh} {σ : zIn} {i : Nat} (h : i ∈ g.1) : ∃ k : Nat, g.1[k]? = some i ∧ (z_w cy g σ)[k]? = some (g.2.1 i, z_cel cy g i (σ i)) := by
  obtain ⟨k, hk⟩ := List.getElem?_of_mem h
  exact ⟨k, hk, by simp [z_w, hk]⟩
theorem z_inj {cy : Nat → ClassId} {g : zSh} {σ : zIn} {A : Nat → Prop} (hD : va_D A (z_w cy g σ)) {n k i j : Nat} (h1 : g.1[n]? = some i) (h2 : g.1[k]? = some j) (h : g.2.1 i = g.2.1 j) : n = k :=
  hD.1 n k (g.2.1 i, z_cel cy g i (σ i)) (g.2.1 j, z_cel cy g j (σ j)) (by simp [z_w, h1]) (by simp [z_w, h2]) h
theorem z_set {cy : Nat → ClassId} {g g' : zSh} {σ σ' : zIn} {A : Nat → Prop} {k i : Nat} {e' : va_E} (hD : va_D A (z_w cy g σ)) (hi : g.1[k]? = some i) (h0 : g'.1 = g.1) (ha : g'.2.1 = g.2.1)
    (h1 : ∀ j, j ≠ i → z_cel cy g' j (σ' j) = z_cel cy g j (σ j)) (h2 : z_cel cy g' i (σ' i) = e') : (z_w cy g σ).set k (g.2.1 i, e') = z_w cy g' σ' := by
  apply List.ext_getElem?
  intro n
  by_cases hn : n = k
  · subst hn
    have hl : n < g.1.length := (List.getElem?_eq_some_iff.mp hi).1
    rw [List.getElem?_set_self (by simp [z_w]; exact hl)]
    simp [z_w, h0, ha, hi, h2]
  · rw [List.getElem?_set_ne (Ne.symm hn)]
    simp only [z_w, List.getElem?_map, h0, ha]
    cases hg : g.1[n]? with
    | none => rfl
    | some j =>
      have hj : j ≠ i := fun h => hn (z_inj hD hg hi (by rw [h]))
      simp [h1 j hj]
/-- the locals: of n places; those listed are held; every listed one is of one slot -/
def z_L (ls : Array Slot) (n : Nat) (L : List (Option Value)) : Prop := lv_has ls n [] ∧ (∀ (i : Nat) (v : Value), L[i]? = some (some v) → ls[i]? = some (Slot.val v)) ∧ ∀ (i : Nat) (v : Value), L[i]? = some (some v) → v.category = 1
def z_ix (L : List (Option Value)) : List (Nat × Value) := L.zipIdx.filterMap (fun q => q.1.map (fun v => (q.2, v)))
theorem z_ix_mem {L : List (Option Value)} {j : Nat} {w : Value} : (j, w) ∈ z_ix L ↔ L[j]? = some (some w) := by
  constructor
  · intro h
    obtain ⟨⟨o, k⟩, h1, h2⟩ := List.mem_filterMap.mp h
    have h3 := List.mem_zipIdx_iff_getElem?.mp h1
    cases o with
    | none => cases h2
    | some v => cases h2; exact h3
  · intro h
    exact List.mem_filterMap.mpr ⟨(some w, j), List.mem_zipIdx_iff_getElem?.mpr h, rfl⟩
theorem z_L_ix {ls : Array Slot} {n : Nat} {L : List (Option Value)} (h : z_L ls n L) : lv_has ls n (z_ix L) := ⟨h.1.1, h.1.2.1, fun q hq => h.2.1 q.1 q.2 (z_ix_mem.mp hq)⟩
theorem z_L_set {ls ls' : Array Slot} {n i : Nat} {L : List (Option Value)} {v : Value} (h : z_L ls n L) (hv : v.category = 1)
    (h2 : lv_has ls' n ((i, v) :: (z_ix L).filter (fun q => !(q.1 == i) && !(q.1 + 1 == i && q.2.category == 2)))) : z_L ls' n (L.set i (some v)) := by
  obtain ⟨h0, h3, h4⟩ := h
  have key : ∀ (j : Nat) (w : Value), (L.set i (some v))[j]? = some (some w) → (j = i ∧ w = v) ∨ (j ≠ i ∧ L[j]? = some (some w)) := by
    intro j w hj
    by_cases e : j = i
    · subst e
      by_cases hl : j < L.length
      · rw [List.getElem?_set_self hl] at hj
        cases hj; exact Or.inl ⟨rfl, rfl⟩
      · rw [List.getElem?_eq_none (by simp; omega)] at hj; cases hj
    · rw [List.getElem?_set_ne (Ne.symm e)] at hj
      exact Or.inr ⟨e, hj⟩
  refine ⟨⟨h2.1, h2.2.1, fun q hq => by cases hq⟩, fun j w hj => ?_, fun j w hj => ?_⟩
  · rcases key j w hj with ⟨rfl, rfl⟩ | ⟨e, hj⟩
    · exact h2.2.2 _ List.mem_cons_self
    · refine h2.2.2 (j, w) (List.mem_cons_of_mem _ (List.mem_filter.mpr ⟨z_ix_mem.mpr hj, ?_⟩))
      simp [e, h4 j w hj]
  · rcases key j w hj with ⟨rfl, rfl⟩ | ⟨e, hj⟩
    · exact hv
    · exact h4 j w hj
def z_cx (p : Program) (s : State) (m : MethodId) (args : Array Value) (meth : Method) (c : Code) (own : String) (cc : ByteArray) (nL : Nat) (ret : Option FieldType) (nm : String) (D : va_G) (cy : Nat → ClassId) (z0 : Nat) : Prop :=
  p.tables.exec = Jvm.exec ∧ c.code = cc ∧ c.maxLocals = nL ∧ s.vm.findClass own = some m.cls ∧ (∀ w ∈ lw_good, w.before args s = true) ∧ (∀ w ∈ lw_nest, va_Nw w s) ∧ va_K D vwCl (z_tys cy) s ∧ z0 ≤ s.heap.size ∧ meth.sig.returnType = ret ∧ meth.name = nm ∧ meth.locks = false
def z_V (p : Program) (l : Launch) (e : Env) (R : Room) (s : State) (m : MethodId) (args : Array Value) (below : List Frame) (meth : Method) (c : Code) (nL : Nat) (D : va_G) (cy : Nat → ClassId) (z0 cells slots : Nat) (Q : State → Prop) (pc : Nat) (L : List (Option Value)) (st : List Value) (g : zSh) (σ : zIn) : Prop :=
  ∀ (H : Heap) (locs : List Loc) (ls : Array Slot), va_P D vwCl (z_w cy g σ) H → va_D (z_A z0) (z_w cy g σ) → va_S (z_A z0) s.heap H locs → z_L ls nL L → W p l e R s m args below meth c H locs cells slots Q (F0 m pc ls st)
/-- what a method's end owes -/
def z_Qc (D : va_G) (cy : Nat → ClassId) (z0 : Nat) (Post : Option Value → zSh → zIn → Prop) : Array Value → State → Outcome → State → Prop := fun _ st oc t =>
  (∃ (v : Option Value) (g : zSh) (σ : zIn), oc = .returned v ∧ Post v g σ ∧ va_P D vwCl (z_w cy g σ) t.heap ∧ va_D (z_A z0) (z_w cy g σ)) ∧ va_F (z_A z0) st t
def z_Pc (D : va_G) (cy : Nat → ClassId) (z0 : Nat) (av : List Value) (g : zSh) (σ : zIn) : Array Value → State → Prop := va_Pc av (fun U => z0 ≤ U.heap.size ∧ va_P D vwCl (z_w cy g σ) U.heap ∧ va_D (z_A z0) (z_w cy g σ) ∧ va_K D vwCl (z_tys cy) U ∧ ∀ w ∈ lw_nest, va_Nw w U)
def z_Ct (l : Launch) (D : va_G) (cy : Nat → ClassId) (z0 : Nat) (M : zM) (av : List Value) (g : zSh) (σ : zIn) (Post : Option Value → zSh → zIn → Prop) : Prop :=
  Met l M.1 (.code M.1 M.2.1 M.2.2.1 M.2.2.2.1 :: lw_good) { frames := M.2.2.2.2.1, cells := M.2.2.2.2.2.1, slots := M.2.2.2.2.2.2.1, locals := M.2.2.2.2.2.2.2 } (z_Pc D cy z0 av g σ) (z_Qc D cy z0 Post) M.2.2.2.2.2.1 M.2.2.2.2.2.2.1 (z_A z0)
theorem z_Pc_blind {D : va_G} {cy : Nat → ClassId} {z0 : Nat} {av : List Value} {g : zSh} {σ : zIn} : FrameBlind (z_Pc D cy z0 av g σ) := by
  intro a U gg mk h
  obtain ⟨h1, h2, h3, h4, h5, h6⟩ := h
  refine ⟨h1, h2, h3, h4, va_K.moved (u := U) (U := U.calling gg mk a) (Vm.Alike.refl U.vm) h5, fun w hw => ?_⟩
  have h7 := h6 w hw
  have h8 := (List.mem_filter.mp hw).2
  cases w <;> first | (exact absurd h8 Bool.false_ne_true) | (exact va_Nw.same rfl (u := U) (U := U.calling gg mk a) rfl h7) | skip
  case arrayOver t =>
    cases t <;> first | (exact absurd h8 Bool.false_ne_true) | (exact va_AO.moved (u := U) (U := U.calling gg mk a) (Vm.Alike.refl U.vm) h7)
theorem z_lv_args : ∀ (av : List Value) (k : Nat), (∀ v ∈ av, v.category = 1) → ∀ (i : Nat) (v : Value), av[i]? = some v → (k + i, v) ∈ lv_args k av
  | [], _, _, i, v, h => by simp at h
  | a :: av, k, hc, i, v, h => by
    have ha : a.category = 1 := hc a List.mem_cons_self
    cases i with
    | zero => simp at h; subst h; simp [lv_args]
    | succ i =>
      have h1 : av[i]? = some v := by simpa using h
      have h2 := z_lv_args av (k + 1) (fun v hv => hc v (List.mem_cons_of_mem _ hv)) i v h1
      simp only [lv_args, ha]
      refine List.mem_cons_of_mem _ ?_
      have e : k + (i + 1) = k + 1 + i := by omega
      rw [e]; simpa using h2
theorem z_sl_len : ∀ (av : List Value), (∀ v ∈ av, v.category = 1) → (lg_sl av).length = av.length
  | [], _ => rfl
  | a :: av, hc => by
    have ha : a.category = 1 := hc a List.mem_cons_self
    have h2 := z_sl_len av (fun v hv => hc v (List.mem_cons_of_mem _ hv))
    simp only [lg_sl] at h2 ⊢
    simp [List.flatMap_cons, ha, h2]
theorem z_ofV {l : Launch} {D : va_G} {cy : Nat → ClassId} {z0 : Nat} {M : zM} {av : List Value} {g : zSh} {σ : zIn} {Post : Option Value → zSh → zIn → Prop} (hpn : plainName M.1.cls = true) (hav : ∀ v ∈ av, v.category = 1) (hn : av.length ≤ M.2.2.1)
    (h : ∀ (p : Program) (e : Env) (s : State) (m : MethodId) (args : Array Value) (below : List Frame) (meth : Method) (c : Code), z_cx p s m args meth c M.1.cls M.2.1 M.2.2.1 M.2.2.2.1 M.1.name D cy z0 →
      z_V p l e { frames := M.2.2.2.2.1, cells := M.2.2.2.2.2.1, slots := M.2.2.2.2.2.2.1, locals := M.2.2.2.2.2.2.2 } s m args below meth c M.2.2.1 D cy z0 0 0 (MQ below (z_Qc D cy z0 Post) args s M.2.2.2.2.2.1 M.2.2.2.2.2.2.1 (z_A z0)) 0 (av.map some ++ List.replicate (M.2.2.1 - av.length) none) [] g σ) : z_Ct l D cy z0 M av g σ Post := by
  refine Met.ofW (cc := M.2.1) (maxL := M.2.2.1) (ret := M.2.2.2.1) hpn rfl ?_
  intro p e s m args below meth c s₁ B hml hv
  obtain ⟨rfl, hz, hP, hD, hK, hN⟩ := hv
  have hts := atoms_spec (ws := .code M.1 M.2.1 M.2.2.1 M.2.2.2.1 :: lw_good) B.pre
  have hown : s.vm.findClass M.1.cls = some m.cls := findClass_of_methodNamed B.named
  have hin : meth.name = M.1.name := (name_of_methodNamed B.named B.method).1
  have hl0 := lv_entry av (n := M.2.2.1) (by rw [z_sl_len av hav]; exact hn)
  rw [lg_entry_eq]
  generalize (lg_sl av ++ List.replicate (M.2.2.1 - (lg_sl av).length) Slot.unset).toArray = ls at hl0 ⊢
  refine h p e s m av.toArray below meth c ⟨B.exec, B.bytes, hml, hown, fun w hw => hts w (List.mem_cons_of_mem _ hw), hN, hK, hz, B.returns, hin, B.notSynchronized⟩ s.heap [] ls hP hD va_S.rf ⟨⟨hl0.1, hl0.2.1, fun q hq => by cases hq⟩, fun i v hi => ?_, fun i v hi => ?_⟩
  · have hi' : av[i]? = some v := by
      by_cases hlt : i < av.length
      · rw [List.getElem?_append_left (by simpa using hlt), List.getElem?_map] at hi
        cases hq : av[i]? with
        | none => rw [hq] at hi; cases hi
        | some w => rw [hq] at hi; cases hi; rfl
      · rw [List.getElem?_append_right (by simpa using Nat.not_lt.mp hlt)] at hi
        have := List.mem_of_getElem? hi
        simp at this
    have := hl0.2.2 (0 + i, v) (z_lv_args av 0 hav i v hi')
    simpa using this
  · have hi' : some v ∈ av.map some ++ List.replicate (M.2.2.1 - av.length) (none : Option Value) := List.mem_of_getElem? hi
    rcases List.mem_append.mp hi' with h1 | h1
    · obtain ⟨w, hw, e⟩ := List.mem_map.mp h1
      cases e; exact hav v hw
    · simp at h1
end
section
/-! the rows of z_V, an instruction each -/
section ZR
variable {p : Program} {l : Launch} {e : Env} {R : Room} {s : State} {m : MethodId} {args : Array Value} {below : List Frame} {meth : Method} {c : Code} {cells slots : Nat} {Q : State → Prop} {own nm : String} {cc : ByteArray} {nL : Nat} {ret : Option FieldType} {D : va_G} {cy : Nat → ClassId} {z0 pc : Nat} {L : List (Option Value)} {st : List Value} {g : zSh} {σ : zIn}

theorem z_iconst (X : z_cx p s m args meth c own cc nL ret nm D cy z0) {n : Int} {v : Int32} (hv : Int32.ofInt n = v) (d : decode cc pc = .ok (.iconst n, 1)) (kk : z_V p l e R s m args below meth c nL D cy z0 cells slots Q (pc + 1) (L) (.int v :: st) g σ) : z_V p l e R s m args below meth c nL D cy z0 cells slots Q (pc) (L) (st) g σ := by
  intro H locs ls hP hD hS hL
  obtain ⟨hx, hb, hml, hown, hts, hN, hK, hz, hr, hnm, hlk⟩ := X
  exact lv_iconst hx hb d hv (kk H locs ls hP hD hS hL)
theorem z_bipush (X : z_cx p s m args meth c own cc nL ret nm D cy z0) {n : Int} {v : Int32} (hv : (Int8.ofInt n).toInt32 = v) (d : decode cc pc = .ok (.bipush n, 2)) (kk : z_V p l e R s m args below meth c nL D cy z0 cells slots Q (pc + 2) (L) (.int v :: st) g σ) : z_V p l e R s m args below meth c nL D cy z0 cells slots Q (pc) (L) (st) g σ := by
  intro H locs ls hP hD hS hL
  obtain ⟨hx, hb, hml, hown, hts, hN, hK, hz, hr, hnm, hlk⟩ := X
  exact lv_bipush hx hb d hv (kk H locs ls hP hD hS hL)
theorem z_sipush (X : z_cx p s m args meth c own cc nL ret nm D cy z0) {n : Int} {v : Int32} (hv : (Int16.ofInt n).toInt32 = v) (d : decode cc pc = .ok (.sipush n, 3)) (kk : z_V p l e R s m args below meth c nL D cy z0 cells slots Q (pc + 3) (L) (.int v :: st) g σ) : z_V p l e R s m args below meth c nL D cy z0 cells slots Q (pc) (L) (st) g σ := by
  intro H locs ls hP hD hS hL
  obtain ⟨hx, hb, hml, hown, hts, hN, hK, hz, hr, hnm, hlk⟩ := X
  exact lv_sipush hx hb d hv (kk H locs ls hP hD hS hL)
theorem z_iload_n (X : z_cx p s m args meth c own cc nL ret nm D cy z0) {k : Fin 4} {x : Int32} (d : decode cc pc = .ok (.iload_n k, 1)) (h : L[(k : Nat)]? = some (some (.int x))) (kk : z_V p l e R s m args below meth c nL D cy z0 cells slots Q (pc + 1) (L) (.int x :: st) g σ) : z_V p l e R s m args below meth c nL D cy z0 cells slots Q (pc) (L) (st) g σ := by
  intro H locs ls hP hD hS hL
  obtain ⟨hx, hb, hml, hown, hts, hN, hK, hz, hr, hnm, hlk⟩ := X
  exact lv_iload_n hx hb d rfl (hL.2.1 _ _ h) (kk H locs ls hP hD hS hL)
theorem z_iload (X : z_cx p s m args meth c own cc nL ret nm D cy z0) {i : Nat} {x : Int32} (d : decode cc pc = .ok (.iload i, 2)) (h : L[i]? = some (some (.int x))) (kk : z_V p l e R s m args below meth c nL D cy z0 cells slots Q (pc + 2) (L) (.int x :: st) g σ) : z_V p l e R s m args below meth c nL D cy z0 cells slots Q (pc) (L) (st) g σ := by
  intro H locs ls hP hD hS hL
  obtain ⟨hx, hb, hml, hown, hts, hN, hK, hz, hr, hnm, hlk⟩ := X
  exact lv_iload hx hb d (hL.2.1 _ _ h) (kk H locs ls hP hD hS hL)
theorem z_aload_n (X : z_cx p s m args meth c own cc nL ret nm D cy z0) {k : Fin 4} {x : Nat} (d : decode cc pc = .ok (.aload_n k, 1)) (h : L[(k : Nat)]? = some (some (.ref x))) (kk : z_V p l e R s m args below meth c nL D cy z0 cells slots Q (pc + 1) (L) (.ref x :: st) g σ) : z_V p l e R s m args below meth c nL D cy z0 cells slots Q (pc) (L) (st) g σ := by
  intro H locs ls hP hD hS hL
  obtain ⟨hx, hb, hml, hown, hts, hN, hK, hz, hr, hnm, hlk⟩ := X
  exact lv_aload_n hx hb d rfl (hL.2.1 _ _ h) (kk H locs ls hP hD hS hL)
theorem z_aload (X : z_cx p s m args meth c own cc nL ret nm D cy z0) {i : Nat} {x : Nat} (d : decode cc pc = .ok (.aload i, 2)) (h : L[i]? = some (some (.ref x))) (kk : z_V p l e R s m args below meth c nL D cy z0 cells slots Q (pc + 2) (L) (.ref x :: st) g σ) : z_V p l e R s m args below meth c nL D cy z0 cells slots Q (pc) (L) (st) g σ := by
  intro H locs ls hP hD hS hL
  obtain ⟨hx, hb, hml, hown, hts, hN, hK, hz, hr, hnm, hlk⟩ := X
  exact lv_aload hx hb d (hL.2.1 _ _ h) (kk H locs ls hP hD hS hL)
theorem z_aload_nN (X : z_cx p s m args meth c own cc nL ret nm D cy z0) {k : Fin 4} (d : decode cc pc = .ok (.aload_n k, 1)) (h : L[(k : Nat)]? = some (some .null)) (kk : z_V p l e R s m args below meth c nL D cy z0 cells slots Q (pc + 1) (L) (.null :: st) g σ) : z_V p l e R s m args below meth c nL D cy z0 cells slots Q (pc) (L) (st) g σ := by
  intro H locs ls hP hD hS hL
  obtain ⟨hx, hb, hml, hown, hts, hN, hK, hz, hr, hnm, hlk⟩ := X
  exact lv_aload_nN hx hb d rfl (hL.2.1 _ _ h) (kk H locs ls hP hD hS hL)
theorem z_aloadN (X : z_cx p s m args meth c own cc nL ret nm D cy z0) {i : Nat} (d : decode cc pc = .ok (.aload i, 2)) (h : L[i]? = some (some .null)) (kk : z_V p l e R s m args below meth c nL D cy z0 cells slots Q (pc + 2) (L) (.null :: st) g σ) : z_V p l e R s m args below meth c nL D cy z0 cells slots Q (pc) (L) (st) g σ := by
  intro H locs ls hP hD hS hL
  obtain ⟨hx, hb, hml, hown, hts, hN, hK, hz, hr, hnm, hlk⟩ := X
  exact lv_aloadN hx hb d (hL.2.1 _ _ h) (kk H locs ls hP hD hS hL)
theorem z_istore_n (X : z_cx p s m args meth c own cc nL ret nm D cy z0) {k : Fin 4} {x : Int32} (d : decode cc pc = .ok (.istore_n k, 1)) (hn : (k : Nat) < nL) (kk : z_V p l e R s m args below meth c nL D cy z0 cells slots Q (pc + 1) (L.set (k : Nat) (some (.int x))) (st) g σ) : z_V p l e R s m args below meth c nL D cy z0 cells slots Q (pc) (L) (.int x :: st) g σ := by
  intro H locs ls hP hD hS hL
  obtain ⟨hx, hb, hml, hown, hts, hN, hK, hz, hr, hnm, hlk⟩ := X
  exact lv_istore_n hx hb d rfl (z_L_ix hL) hn rfl (fun ls2 h2 => kk H locs ls2 hP hD hS (z_L_set hL rfl h2))
theorem z_istore (X : z_cx p s m args meth c own cc nL ret nm D cy z0) {i : Nat} {x : Int32} (d : decode cc pc = .ok (.istore i, 2)) (hn : i < nL) (kk : z_V p l e R s m args below meth c nL D cy z0 cells slots Q (pc + 2) (L.set i (some (.int x))) (st) g σ) : z_V p l e R s m args below meth c nL D cy z0 cells slots Q (pc) (L) (.int x :: st) g σ := by
  intro H locs ls hP hD hS hL
  obtain ⟨hx, hb, hml, hown, hts, hN, hK, hz, hr, hnm, hlk⟩ := X
  exact lv_istore hx hb d (z_L_ix hL) hn rfl (fun ls2 h2 => kk H locs ls2 hP hD hS (z_L_set hL rfl h2))
theorem z_astore_n (X : z_cx p s m args meth c own cc nL ret nm D cy z0) {k : Fin 4} {x : Nat} (d : decode cc pc = .ok (.astore_n k, 1)) (hn : (k : Nat) < nL) (kk : z_V p l e R s m args below meth c nL D cy z0 cells slots Q (pc + 1) (L.set (k : Nat) (some (.ref x))) (st) g σ) : z_V p l e R s m args below meth c nL D cy z0 cells slots Q (pc) (L) (.ref x :: st) g σ := by
  intro H locs ls hP hD hS hL
  obtain ⟨hx, hb, hml, hown, hts, hN, hK, hz, hr, hnm, hlk⟩ := X
  exact lv_astore_n hx hb d rfl (z_L_ix hL) hn rfl (fun ls2 h2 => kk H locs ls2 hP hD hS (z_L_set hL rfl h2))
theorem z_astore (X : z_cx p s m args meth c own cc nL ret nm D cy z0) {i : Nat} {x : Nat} (d : decode cc pc = .ok (.astore i, 2)) (hn : i < nL) (kk : z_V p l e R s m args below meth c nL D cy z0 cells slots Q (pc + 2) (L.set i (some (.ref x))) (st) g σ) : z_V p l e R s m args below meth c nL D cy z0 cells slots Q (pc) (L) (.ref x :: st) g σ := by
  intro H locs ls hP hD hS hL
  obtain ⟨hx, hb, hml, hown, hts, hN, hK, hz, hr, hnm, hlk⟩ := X
  exact lv_astore hx hb d (z_L_ix hL) hn rfl (fun ls2 h2 => kk H locs ls2 hP hD hS (z_L_set hL rfl h2))
theorem z_astore_nN (X : z_cx p s m args meth c own cc nL ret nm D cy z0) {k : Fin 4} (d : decode cc pc = .ok (.astore_n k, 1)) (hn : (k : Nat) < nL) (kk : z_V p l e R s m args below meth c nL D cy z0 cells slots Q (pc + 1) (L.set (k : Nat) (some .null)) (st) g σ) : z_V p l e R s m args below meth c nL D cy z0 cells slots Q (pc) (L) (.null :: st) g σ := by
  intro H locs ls hP hD hS hL
  obtain ⟨hx, hb, hml, hown, hts, hN, hK, hz, hr, hnm, hlk⟩ := X
  exact lv_astore_nN hx hb d rfl (z_L_ix hL) hn rfl (fun ls2 h2 => kk H locs ls2 hP hD hS (z_L_set hL rfl h2))
theorem z_astoreN (X : z_cx p s m args meth c own cc nL ret nm D cy z0) {i : Nat} (d : decode cc pc = .ok (.astore i, 2)) (hn : i < nL) (kk : z_V p l e R s m args below meth c nL D cy z0 cells slots Q (pc + 2) (L.set i (some .null)) (st) g σ) : z_V p l e R s m args below meth c nL D cy z0 cells slots Q (pc) (L) (.null :: st) g σ := by
  intro H locs ls hP hD hS hL
  obtain ⟨hx, hb, hml, hown, hts, hN, hK, hz, hr, hnm, hlk⟩ := X
  exact lv_astoreN hx hb d (z_L_ix hL) hn rfl (fun ls2 h2 => kk H locs ls2 hP hD hS (z_L_set hL rfl h2))
theorem z_iinc (X : z_cx p s m args meth c own cc nL ret nm D cy z0) {i : Nat} {n : Int} {x v : Int32} (d : decode cc pc = .ok (.iinc i n, 3)) (h : L[i]? = some (some (.int x))) (hv : Int32.ofInt n = v) (hn : i < nL) (kk : z_V p l e R s m args below meth c nL D cy z0 cells slots Q (pc + 3) (L.set i (some (.int (x + v)))) (st) g σ) : z_V p l e R s m args below meth c nL D cy z0 cells slots Q (pc) (L) (st) g σ := by
  intro H locs ls hP hD hS hL
  obtain ⟨hx, hb, hml, hown, hts, hN, hK, hz, hr, hnm, hlk⟩ := X
  subst hv
  obtain ⟨k, hk⟩ := List.getElem?_of_mem (z_ix_mem.mpr h)
  exact lv_iinc hx hb d (z_L_ix hL) hk rfl hn rfl (fun ls2 h2 => kk H locs ls2 hP hD hS (z_L_set hL rfl h2))
theorem z_iadd (X : z_cx p s m args meth c own cc nL ret nm D cy z0) {x y : Int32} (d : decode cc pc = .ok (.iadd, 1)) (kk : z_V p l e R s m args below meth c nL D cy z0 cells slots Q (pc + 1) (L) (.int (x + y) :: st) g σ) : z_V p l e R s m args below meth c nL D cy z0 cells slots Q (pc) (L) (.int y :: .int x :: st) g σ := by
  intro H locs ls hP hD hS hL
  obtain ⟨hx, hb, hml, hown, hts, hN, hK, hz, hr, hnm, hlk⟩ := X
  exact lv_iadd hx hb d (kk H locs ls hP hD hS hL)
theorem z_isub (X : z_cx p s m args meth c own cc nL ret nm D cy z0) {x y : Int32} (d : decode cc pc = .ok (.isub, 1)) (kk : z_V p l e R s m args below meth c nL D cy z0 cells slots Q (pc + 1) (L) (.int (x - y) :: st) g σ) : z_V p l e R s m args below meth c nL D cy z0 cells slots Q (pc) (L) (.int y :: .int x :: st) g σ := by
  intro H locs ls hP hD hS hL
  obtain ⟨hx, hb, hml, hown, hts, hN, hK, hz, hr, hnm, hlk⟩ := X
  exact lv_isub hx hb d (kk H locs ls hP hD hS hL)
theorem z_imul (X : z_cx p s m args meth c own cc nL ret nm D cy z0) {x y : Int32} (d : decode cc pc = .ok (.imul, 1)) (kk : z_V p l e R s m args below meth c nL D cy z0 cells slots Q (pc + 1) (L) (.int (x * y) :: st) g σ) : z_V p l e R s m args below meth c nL D cy z0 cells slots Q (pc) (L) (.int y :: .int x :: st) g σ := by
  intro H locs ls hP hD hS hL
  obtain ⟨hx, hb, hml, hown, hts, hN, hK, hz, hr, hnm, hlk⟩ := X
  exact lv_imul hx hb d (kk H locs ls hP hD hS hL)
theorem z_iand (X : z_cx p s m args meth c own cc nL ret nm D cy z0) {x y : Int32} (d : decode cc pc = .ok (.iand, 1)) (kk : z_V p l e R s m args below meth c nL D cy z0 cells slots Q (pc + 1) (L) (.int (x &&& y) :: st) g σ) : z_V p l e R s m args below meth c nL D cy z0 cells slots Q (pc) (L) (.int y :: .int x :: st) g σ := by
  intro H locs ls hP hD hS hL
  obtain ⟨hx, hb, hml, hown, hts, hN, hK, hz, hr, hnm, hlk⟩ := X
  exact lv_iand hx hb d (kk H locs ls hP hD hS hL)
theorem z_ior (X : z_cx p s m args meth c own cc nL ret nm D cy z0) {x y : Int32} (d : decode cc pc = .ok (.ior, 1)) (kk : z_V p l e R s m args below meth c nL D cy z0 cells slots Q (pc + 1) (L) (.int (x ||| y) :: st) g σ) : z_V p l e R s m args below meth c nL D cy z0 cells slots Q (pc) (L) (.int y :: .int x :: st) g σ := by
  intro H locs ls hP hD hS hL
  obtain ⟨hx, hb, hml, hown, hts, hN, hK, hz, hr, hnm, hlk⟩ := X
  exact lv_ior hx hb d (kk H locs ls hP hD hS hL)
theorem z_ixor (X : z_cx p s m args meth c own cc nL ret nm D cy z0) {x y : Int32} (d : decode cc pc = .ok (.ixor, 1)) (kk : z_V p l e R s m args below meth c nL D cy z0 cells slots Q (pc + 1) (L) (.int (x ^^^ y) :: st) g σ) : z_V p l e R s m args below meth c nL D cy z0 cells slots Q (pc) (L) (.int y :: .int x :: st) g σ := by
  intro H locs ls hP hD hS hL
  obtain ⟨hx, hb, hml, hown, hts, hN, hK, hz, hr, hnm, hlk⟩ := X
  exact lv_ixor hx hb d (kk H locs ls hP hD hS hL)
theorem z_ishl (X : z_cx p s m args meth c own cc nL ret nm D cy z0) {x y : Int32} (d : decode cc pc = .ok (.ishl, 1)) (kk : z_V p l e R s m args below meth c nL D cy z0 cells slots Q (pc + 1) (L) (.int (x <<< (y &&& 31)) :: st) g σ) : z_V p l e R s m args below meth c nL D cy z0 cells slots Q (pc) (L) (.int y :: .int x :: st) g σ := by
  intro H locs ls hP hD hS hL
  obtain ⟨hx, hb, hml, hown, hts, hN, hK, hz, hr, hnm, hlk⟩ := X
  exact lv_ishl hx hb d (kk H locs ls hP hD hS hL)
theorem z_ishr (X : z_cx p s m args meth c own cc nL ret nm D cy z0) {x y : Int32} (d : decode cc pc = .ok (.ishr, 1)) (kk : z_V p l e R s m args below meth c nL D cy z0 cells slots Q (pc + 1) (L) (.int (x >>> (y &&& 31)) :: st) g σ) : z_V p l e R s m args below meth c nL D cy z0 cells slots Q (pc) (L) (.int y :: .int x :: st) g σ := by
  intro H locs ls hP hD hS hL
  obtain ⟨hx, hb, hml, hown, hts, hN, hK, hz, hr, hnm, hlk⟩ := X
  exact lv_ishr hx hb d (kk H locs ls hP hD hS hL)
theorem z_idiv (X : z_cx p s m args meth c own cc nL ret nm D cy z0) {x y : Int32} (hne : ¬ y = 0) (d : decode cc pc = .ok (.idiv, 1)) (kk : z_V p l e R s m args below meth c nL D cy z0 cells slots Q (pc + 1) (L) (.int (x / y) :: st) g σ) : z_V p l e R s m args below meth c nL D cy z0 cells slots Q (pc) (L) (.int y :: .int x :: st) g σ := by
  intro H locs ls hP hD hS hL
  obtain ⟨hx, hb, hml, hown, hts, hN, hK, hz, hr, hnm, hlk⟩ := X
  exact lv_idiv hx hb d hne (kk H locs ls hP hD hS hL)
theorem z_irem (X : z_cx p s m args meth c own cc nL ret nm D cy z0) {x y : Int32} (hne : ¬ y = 0) (d : decode cc pc = .ok (.irem, 1)) (kk : z_V p l e R s m args below meth c nL D cy z0 cells slots Q (pc + 1) (L) (.int (x - x / y * y) :: st) g σ) : z_V p l e R s m args below meth c nL D cy z0 cells slots Q (pc) (L) (.int y :: .int x :: st) g σ := by
  intro H locs ls hP hD hS hL
  obtain ⟨hx, hb, hml, hown, hts, hN, hK, hz, hr, hnm, hlk⟩ := X
  exact lv_irem hx hb d hne (kk H locs ls hP hD hS hL)
theorem z_ineg (X : z_cx p s m args meth c own cc nL ret nm D cy z0) {x : Int32} (d : decode cc pc = .ok (.ineg, 1)) (kk : z_V p l e R s m args below meth c nL D cy z0 cells slots Q (pc + 1) (L) (.int (-x) :: st) g σ) : z_V p l e R s m args below meth c nL D cy z0 cells slots Q (pc) (L) (.int x :: st) g σ := by
  intro H locs ls hP hD hS hL
  obtain ⟨hx, hb, hml, hown, hts, hN, hK, hz, hr, hnm, hlk⟩ := X
  exact lv_ineg hx hb d (kk H locs ls hP hD hS hL)
theorem z_i2l (X : z_cx p s m args meth c own cc nL ret nm D cy z0) {x : Int32} (d : decode cc pc = .ok (.i2l, 1)) (kk : z_V p l e R s m args below meth c nL D cy z0 cells slots Q (pc + 1) (L) (.long x.toInt64 :: st) g σ) : z_V p l e R s m args below meth c nL D cy z0 cells slots Q (pc) (L) (.int x :: st) g σ := by
  intro H locs ls hP hD hS hL
  obtain ⟨hx, hb, hml, hown, hts, hN, hK, hz, hr, hnm, hlk⟩ := X
  exact lv_i2l hx hb d rfl (kk H locs ls hP hD hS hL)
theorem z_lcmp (X : z_cx p s m args meth c own cc nL ret nm D cy z0) {x y : Int64} (d : decode cc pc = .ok (.lcmp, 1)) (kk : z_V p l e R s m args below meth c nL D cy z0 cells slots Q (pc + 1) (L) (.int (lg_cmp x y) :: st) g σ) : z_V p l e R s m args below meth c nL D cy z0 cells slots Q (pc) (L) (.long y :: .long x :: st) g σ := by
  intro H locs ls hP hD hS hL
  obtain ⟨hx, hb, hml, hown, hts, hN, hK, hz, hr, hnm, hlk⟩ := X
  exact W.lcmp hx hb d (kk H locs ls hP hD hS hL)
theorem z_dup (X : z_cx p s m args meth c own cc nL ret nm D cy z0) {v : Value} (hv : v.category = 1) (d : decode cc pc = .ok (.dup, 1)) (kk : z_V p l e R s m args below meth c nL D cy z0 cells slots Q (pc + 1) (L) (v :: v :: st) g σ) : z_V p l e R s m args below meth c nL D cy z0 cells slots Q (pc) (L) (v :: st) g σ := by
  intro H locs ls hP hD hS hL
  obtain ⟨hx, hb, hml, hown, hts, hN, hK, hz, hr, hnm, hlk⟩ := X
  exact lv_dup hx hb d hv (kk H locs ls hP hD hS hL)
theorem z_dup2 (X : z_cx p s m args meth c own cc nL ret nm D cy z0) {v w : Value} (hv : v.category = 1) (hw : w.category = 1) (d : decode cc pc = .ok (.dup2, 1)) (kk : z_V p l e R s m args below meth c nL D cy z0 cells slots Q (pc + 1) (L) (v :: w :: v :: w :: st) g σ) : z_V p l e R s m args below meth c nL D cy z0 cells slots Q (pc) (L) (v :: w :: st) g σ := by
  intro H locs ls hP hD hS hL
  obtain ⟨hx, hb, hml, hown, hts, hN, hK, hz, hr, hnm, hlk⟩ := X
  exact lv_dup2_11 hx hb d hv hw (kk H locs ls hP hD hS hL)
theorem z_null (X : z_cx p s m args meth c own cc nL ret nm D cy z0)  (d : decode cc pc = .ok (.aconst_null, 1)) (kk : z_V p l e R s m args below meth c nL D cy z0 cells slots Q (pc + 1) (L) (.null :: st) g σ) : z_V p l e R s m args below meth c nL D cy z0 cells slots Q (pc) (L) (st) g σ := by
  intro H locs ls hP hD hS hL
  obtain ⟨hx, hb, hml, hown, hts, hN, hK, hz, hr, hnm, hlk⟩ := X
  exact lv_null hx hb d (kk H locs ls hP hD hS hL)
theorem z_if_eq (X : z_cx p s m args meth c own cc nL ret nm D cy z0) {x : Int32} {off : Int} {tgt : Nat} (d : decode cc pc = .ok (.ifCond .eq off, 3)) (ht : (pc : Int) + off = (tgt : Int)) (kt : x = 0 → z_V p l e R s m args below meth c nL D cy z0 cells slots Q (tgt) (L) (st) g σ) (kf : ¬ (x = 0) → z_V p l e R s m args below meth c nL D cy z0 cells slots Q (pc + 3) (L) (st) g σ) : z_V p l e R s m args below meth c nL D cy z0 cells slots Q (pc) (L) (.int x :: st) g σ := by
  intro H locs ls hP hD hS hL
  obtain ⟨hx, hb, hml, hown, hts, hN, hK, hz, hr, hnm, hlk⟩ := X
  exact lv_if_eq hx hb d ht (fun h => kt h H locs ls hP hD hS hL) (fun h => kf h H locs ls hP hD hS hL)
theorem z_icmp_eq (X : z_cx p s m args meth c own cc nL ret nm D cy z0) {x y : Int32} {off : Int} {tgt : Nat} (d : decode cc pc = .ok (.if_icmp .eq off, 3)) (ht : (pc : Int) + off = (tgt : Int)) (kt : x = y → z_V p l e R s m args below meth c nL D cy z0 cells slots Q (tgt) (L) (st) g σ) (kf : ¬ (x = y) → z_V p l e R s m args below meth c nL D cy z0 cells slots Q (pc + 3) (L) (st) g σ) : z_V p l e R s m args below meth c nL D cy z0 cells slots Q (pc) (L) (.int y :: .int x :: st) g σ := by
  intro H locs ls hP hD hS hL
  obtain ⟨hx, hb, hml, hown, hts, hN, hK, hz, hr, hnm, hlk⟩ := X
  exact lv_icmp_eq hx hb d ht (fun h => kt h H locs ls hP hD hS hL) (fun h => kf h H locs ls hP hD hS hL)
theorem z_if_ne (X : z_cx p s m args meth c own cc nL ret nm D cy z0) {x : Int32} {off : Int} {tgt : Nat} (d : decode cc pc = .ok (.ifCond .ne off, 3)) (ht : (pc : Int) + off = (tgt : Int)) (kt : ¬ x = 0 → z_V p l e R s m args below meth c nL D cy z0 cells slots Q (tgt) (L) (st) g σ) (kf : x = 0 → z_V p l e R s m args below meth c nL D cy z0 cells slots Q (pc + 3) (L) (st) g σ) : z_V p l e R s m args below meth c nL D cy z0 cells slots Q (pc) (L) (.int x :: st) g σ := by
  intro H locs ls hP hD hS hL
  obtain ⟨hx, hb, hml, hown, hts, hN, hK, hz, hr, hnm, hlk⟩ := X
  exact lv_if_ne hx hb d ht (fun h => kt h H locs ls hP hD hS hL) (fun h => kf h H locs ls hP hD hS hL)
theorem z_icmp_ne (X : z_cx p s m args meth c own cc nL ret nm D cy z0) {x y : Int32} {off : Int} {tgt : Nat} (d : decode cc pc = .ok (.if_icmp .ne off, 3)) (ht : (pc : Int) + off = (tgt : Int)) (kt : ¬ x = y → z_V p l e R s m args below meth c nL D cy z0 cells slots Q (tgt) (L) (st) g σ) (kf : x = y → z_V p l e R s m args below meth c nL D cy z0 cells slots Q (pc + 3) (L) (st) g σ) : z_V p l e R s m args below meth c nL D cy z0 cells slots Q (pc) (L) (.int y :: .int x :: st) g σ := by
  intro H locs ls hP hD hS hL
  obtain ⟨hx, hb, hml, hown, hts, hN, hK, hz, hr, hnm, hlk⟩ := X
  exact lv_icmp_ne hx hb d ht (fun h => kt h H locs ls hP hD hS hL) (fun h => kf h H locs ls hP hD hS hL)
theorem z_if_lt (X : z_cx p s m args meth c own cc nL ret nm D cy z0) {x : Int32} {off : Int} {tgt : Nat} (d : decode cc pc = .ok (.ifCond .lt off, 3)) (ht : (pc : Int) + off = (tgt : Int)) (kt : x < 0 → z_V p l e R s m args below meth c nL D cy z0 cells slots Q (tgt) (L) (st) g σ) (kf : ¬ (x < 0) → z_V p l e R s m args below meth c nL D cy z0 cells slots Q (pc + 3) (L) (st) g σ) : z_V p l e R s m args below meth c nL D cy z0 cells slots Q (pc) (L) (.int x :: st) g σ := by
  intro H locs ls hP hD hS hL
  obtain ⟨hx, hb, hml, hown, hts, hN, hK, hz, hr, hnm, hlk⟩ := X
  exact lv_if_lt hx hb d ht (fun h => kt h H locs ls hP hD hS hL) (fun h => kf h H locs ls hP hD hS hL)
theorem z_icmp_lt (X : z_cx p s m args meth c own cc nL ret nm D cy z0) {x y : Int32} {off : Int} {tgt : Nat} (d : decode cc pc = .ok (.if_icmp .lt off, 3)) (ht : (pc : Int) + off = (tgt : Int)) (kt : x < y → z_V p l e R s m args below meth c nL D cy z0 cells slots Q (tgt) (L) (st) g σ) (kf : ¬ (x < y) → z_V p l e R s m args below meth c nL D cy z0 cells slots Q (pc + 3) (L) (st) g σ) : z_V p l e R s m args below meth c nL D cy z0 cells slots Q (pc) (L) (.int y :: .int x :: st) g σ := by
  intro H locs ls hP hD hS hL
  obtain ⟨hx, hb, hml, hown, hts, hN, hK, hz, hr, hnm, hlk⟩ := X
  exact lv_icmp_lt hx hb d ht (fun h => kt h H locs ls hP hD hS hL) (fun h => kf h H locs ls hP hD hS hL)
theorem z_if_ge (X : z_cx p s m args meth c own cc nL ret nm D cy z0) {x : Int32} {off : Int} {tgt : Nat} (d : decode cc pc = .ok (.ifCond .ge off, 3)) (ht : (pc : Int) + off = (tgt : Int)) (kt : 0 ≤ x → z_V p l e R s m args below meth c nL D cy z0 cells slots Q (tgt) (L) (st) g σ) (kf : ¬ (0 ≤ x) → z_V p l e R s m args below meth c nL D cy z0 cells slots Q (pc + 3) (L) (st) g σ) : z_V p l e R s m args below meth c nL D cy z0 cells slots Q (pc) (L) (.int x :: st) g σ := by
  intro H locs ls hP hD hS hL
  obtain ⟨hx, hb, hml, hown, hts, hN, hK, hz, hr, hnm, hlk⟩ := X
  exact lv_if_ge hx hb d ht (fun h => kt h H locs ls hP hD hS hL) (fun h => kf h H locs ls hP hD hS hL)
theorem z_icmp_ge (X : z_cx p s m args meth c own cc nL ret nm D cy z0) {x y : Int32} {off : Int} {tgt : Nat} (d : decode cc pc = .ok (.if_icmp .ge off, 3)) (ht : (pc : Int) + off = (tgt : Int)) (kt : y ≤ x → z_V p l e R s m args below meth c nL D cy z0 cells slots Q (tgt) (L) (st) g σ) (kf : ¬ (y ≤ x) → z_V p l e R s m args below meth c nL D cy z0 cells slots Q (pc + 3) (L) (st) g σ) : z_V p l e R s m args below meth c nL D cy z0 cells slots Q (pc) (L) (.int y :: .int x :: st) g σ := by
  intro H locs ls hP hD hS hL
  obtain ⟨hx, hb, hml, hown, hts, hN, hK, hz, hr, hnm, hlk⟩ := X
  exact lv_icmp_ge hx hb d ht (fun h => kt h H locs ls hP hD hS hL) (fun h => kf h H locs ls hP hD hS hL)
theorem z_if_gt (X : z_cx p s m args meth c own cc nL ret nm D cy z0) {x : Int32} {off : Int} {tgt : Nat} (d : decode cc pc = .ok (.ifCond .gt off, 3)) (ht : (pc : Int) + off = (tgt : Int)) (kt : 0 < x → z_V p l e R s m args below meth c nL D cy z0 cells slots Q (tgt) (L) (st) g σ) (kf : ¬ (0 < x) → z_V p l e R s m args below meth c nL D cy z0 cells slots Q (pc + 3) (L) (st) g σ) : z_V p l e R s m args below meth c nL D cy z0 cells slots Q (pc) (L) (.int x :: st) g σ := by
  intro H locs ls hP hD hS hL
  obtain ⟨hx, hb, hml, hown, hts, hN, hK, hz, hr, hnm, hlk⟩ := X
  exact lv_if_gt hx hb d ht (fun h => kt h H locs ls hP hD hS hL) (fun h => kf h H locs ls hP hD hS hL)
theorem z_icmp_gt (X : z_cx p s m args meth c own cc nL ret nm D cy z0) {x y : Int32} {off : Int} {tgt : Nat} (d : decode cc pc = .ok (.if_icmp .gt off, 3)) (ht : (pc : Int) + off = (tgt : Int)) (kt : y < x → z_V p l e R s m args below meth c nL D cy z0 cells slots Q (tgt) (L) (st) g σ) (kf : ¬ (y < x) → z_V p l e R s m args below meth c nL D cy z0 cells slots Q (pc + 3) (L) (st) g σ) : z_V p l e R s m args below meth c nL D cy z0 cells slots Q (pc) (L) (.int y :: .int x :: st) g σ := by
  intro H locs ls hP hD hS hL
  obtain ⟨hx, hb, hml, hown, hts, hN, hK, hz, hr, hnm, hlk⟩ := X
  exact lv_icmp_gt hx hb d ht (fun h => kt h H locs ls hP hD hS hL) (fun h => kf h H locs ls hP hD hS hL)
theorem z_if_le (X : z_cx p s m args meth c own cc nL ret nm D cy z0) {x : Int32} {off : Int} {tgt : Nat} (d : decode cc pc = .ok (.ifCond .le off, 3)) (ht : (pc : Int) + off = (tgt : Int)) (kt : x ≤ 0 → z_V p l e R s m args below meth c nL D cy z0 cells slots Q (tgt) (L) (st) g σ) (kf : ¬ (x ≤ 0) → z_V p l e R s m args below meth c nL D cy z0 cells slots Q (pc + 3) (L) (st) g σ) : z_V p l e R s m args below meth c nL D cy z0 cells slots Q (pc) (L) (.int x :: st) g σ := by
  intro H locs ls hP hD hS hL
  obtain ⟨hx, hb, hml, hown, hts, hN, hK, hz, hr, hnm, hlk⟩ := X
  exact lv_if_le hx hb d ht (fun h => kt h H locs ls hP hD hS hL) (fun h => kf h H locs ls hP hD hS hL)
theorem z_icmp_le (X : z_cx p s m args meth c own cc nL ret nm D cy z0) {x y : Int32} {off : Int} {tgt : Nat} (d : decode cc pc = .ok (.if_icmp .le off, 3)) (ht : (pc : Int) + off = (tgt : Int)) (kt : x ≤ y → z_V p l e R s m args below meth c nL D cy z0 cells slots Q (tgt) (L) (st) g σ) (kf : ¬ (x ≤ y) → z_V p l e R s m args below meth c nL D cy z0 cells slots Q (pc + 3) (L) (st) g σ) : z_V p l e R s m args below meth c nL D cy z0 cells slots Q (pc) (L) (.int y :: .int x :: st) g σ := by
  intro H locs ls hP hD hS hL
  obtain ⟨hx, hb, hml, hown, hts, hN, hK, hz, hr, hnm, hlk⟩ := X
  exact lv_icmp_le hx hb d ht (fun h => kt h H locs ls hP hD hS hL) (fun h => kf h H locs ls hP hD hS hL)
theorem z_goto (X : z_cx p s m args meth c own cc nL ret nm D cy z0) {off : Int} {tgt : Nat} (d : decode cc pc = .ok (.goto off, 3)) (ht : (pc : Int) + off = (tgt : Int)) (kk : z_V p l e R s m args below meth c nL D cy z0 cells slots Q (tgt) (L) (st) g σ) : z_V p l e R s m args below meth c nL D cy z0 cells slots Q (pc) (L) (st) g σ := by
  intro H locs ls hP hD hS hL
  obtain ⟨hx, hb, hml, hown, hts, hN, hK, hz, hr, hnm, hlk⟩ := X
  exact lv_goto hx hb d ht (kk H locs ls hP hD hS hL)
theorem z_ifnull (X : z_cx p s m args meth c own cc nL ret nm D cy z0) {x : Nat} {off : Int} (d : decode cc pc = .ok (.ifnull off, 3)) (kk : z_V p l e R s m args below meth c nL D cy z0 cells slots Q (pc + 3) (L) (st) g σ) : z_V p l e R s m args below meth c nL D cy z0 cells slots Q (pc) (L) (.ref x :: st) g σ := by
  intro H locs ls hP hD hS hL
  obtain ⟨hx, hb, hml, hown, hts, hN, hK, hz, hr, hnm, hlk⟩ := X
  exact lv_ifnull hx hb d (kk H locs ls hP hD hS hL)
theorem z_ifnullN (X : z_cx p s m args meth c own cc nL ret nm D cy z0) {off : Int} {tgt : Nat} (d : decode cc pc = .ok (.ifnull off, 3)) (ht : (pc : Int) + off = (tgt : Int)) (kk : z_V p l e R s m args below meth c nL D cy z0 cells slots Q (tgt) (L) (st) g σ) : z_V p l e R s m args below meth c nL D cy z0 cells slots Q (pc) (L) (.null :: st) g σ := by
  intro H locs ls hP hD hS hL
  obtain ⟨hx, hb, hml, hown, hts, hN, hK, hz, hr, hnm, hlk⟩ := X
  exact lv_ifnullN hx hb d ht (kk H locs ls hP hD hS hL)
theorem z_ifnonnull (X : z_cx p s m args meth c own cc nL ret nm D cy z0) {x : Nat} {off : Int} {tgt : Nat} (d : decode cc pc = .ok (.ifnonnull off, 3)) (ht : (pc : Int) + off = (tgt : Int)) (kk : z_V p l e R s m args below meth c nL D cy z0 cells slots Q (tgt) (L) (st) g σ) : z_V p l e R s m args below meth c nL D cy z0 cells slots Q (pc) (L) (.ref x :: st) g σ := by
  intro H locs ls hP hD hS hL
  obtain ⟨hx, hb, hml, hown, hts, hN, hK, hz, hr, hnm, hlk⟩ := X
  exact lv_ifnonnull hx hb d ht (kk H locs ls hP hD hS hL)
theorem z_ifnonnullN (X : z_cx p s m args meth c own cc nL ret nm D cy z0) {off : Int} (d : decode cc pc = .ok (.ifnonnull off, 3)) (kk : z_V p l e R s m args below meth c nL D cy z0 cells slots Q (pc + 3) (L) (st) g σ) : z_V p l e R s m args below meth c nL D cy z0 cells slots Q (pc) (L) (.null :: st) g σ := by
  intro H locs ls hP hD hS hL
  obtain ⟨hx, hb, hml, hown, hts, hN, hK, hz, hr, hnm, hlk⟩ := X
  exact lv_ifnonnullN hx hb d (kk H locs ls hP hD hS hL)
theorem z_ldc (X : z_cx p s m args meth c own cc nL ret nm D cy z0) {index : Nat} {v : Int32} (hc : Cond.constant own index v ∈ lw_good) (d : decode cc pc = .ok (.ldc index, 2)) (kk : z_V p l e R s m args below meth c nL D cy z0 cells slots Q (pc + 2) (L) (.int v :: st) g σ) : z_V p l e R s m args below meth c nL D cy z0 cells slots Q (pc) (L) (st) g σ := by
  intro H locs ls hP hD hS hL
  obtain ⟨hx, hb, hml, hown, hts, hN, hK, hz, hr, hnm, hlk⟩ := X
  exact lv_ldc hx hb hown (hts _ hc) d (kk H locs ls hP hD hS hL)
theorem z_ldcw (X : z_cx p s m args meth c own cc nL ret nm D cy z0) {index : Nat} {v : Int32} (hc : Cond.constant own index v ∈ lw_good) (d : decode cc pc = .ok (.ldc_w index, 3)) (kk : z_V p l e R s m args below meth c nL D cy z0 cells slots Q (pc + 3) (L) (.int v :: st) g σ) : z_V p l e R s m args below meth c nL D cy z0 cells slots Q (pc) (L) (st) g σ := by
  intro H locs ls hP hD hS hL
  obtain ⟨hx, hb, hml, hown, hts, hN, hK, hz, hr, hnm, hlk⟩ := X
  exact lv_ldcw hx hb hown (hts _ hc) d (kk H locs ls hP hD hS hL)
theorem z_widen {ce sl : Nat} (h1 : cells ≤ ce) (h2 : slots ≤ sl) (kk : z_V p l e R s m args below meth c nL D cy z0 ce sl Q (pc) (L) (st) g σ) : z_V p l e R s m args below meth c nL D cy z0 cells slots Q (pc) (L) (st) g σ := fun H locs ls hP hD hS hL => W.widen h1 h2 (kk H locs ls hP hD hS hL)
theorem z_iret (X : z_cx p s m args meth c own cc nL ret nm D cy z0) {rc rs : Nat} {Post : Option Value → zSh → zIn → Prop} {v : Int32} (hc : cells ≤ rc) (hs : slots ≤ rs) (hre : ret = some .int) (d : decode cc pc = .ok (.ireturn, 1)) (hp : Post (some (.int v)) g σ) : z_V p l e R s m args below meth c nL D cy z0 cells slots (MQ below (z_Qc D cy z0 Post) args s rc rs (z_A z0)) (pc) (L) ([.int v]) g σ := by
  intro H locs ls hP hD hS hL
  obtain ⟨hx, hb, hml, hown, hts, hN, hK, hz, hr, hnm, hlk⟩ := X
  subst hre
  refine W.widen hc hs ?_
  exact W.iret hx hb hr (fun t ht hW => ⟨⟨_, g, σ, rfl, hp, by rw [ht]; exact hP, hD⟩, hS.F ht⟩) hS.2.2 d
theorem z_zret (X : z_cx p s m args meth c own cc nL ret nm D cy z0) {rc rs : Nat} {Post : Option Value → zSh → zIn → Prop} {v : Int32} (hc : cells ≤ rc) (hs : slots ≤ rs) (hre : ret = some .boolean) (hv : v = 0 ∨ v = 1) (d : decode cc pc = .ok (.ireturn, 1)) (hp : Post (some (.int v)) g σ) : z_V p l e R s m args below meth c nL D cy z0 cells slots (MQ below (z_Qc D cy z0 Post) args s rc rs (z_A z0)) (pc) (L) ([.int v]) g σ := by
  intro H locs ls hP hD hS hL
  obtain ⟨hx, hb, hml, hown, hts, hN, hK, hz, hr, hnm, hlk⟩ := X
  subst hre
  refine W.widen hc hs ?_
  exact W.zret hx hb hr (by rcases hv with rfl | rfl <;> rfl) (fun t ht hW => ⟨⟨_, g, σ, rfl, hp, by rw [ht]; exact hP, hD⟩, hS.F ht⟩) hS.2.2 d
theorem z_vret (X : z_cx p s m args meth c own cc nL ret nm D cy z0) {rc rs : Nat} {Post : Option Value → zSh → zIn → Prop} (hc : cells ≤ rc) (hs : slots ≤ rs) (hre : ret = none) (d : decode cc pc = .ok (.return_, 1)) (hp : Post none g σ) : z_V p l e R s m args below meth c nL D cy z0 cells slots (MQ below (z_Qc D cy z0 Post) args s rc rs (z_A z0)) (pc) (L) ([]) g σ := by
  intro H locs ls hP hD hS hL
  obtain ⟨hx, hb, hml, hown, hts, hN, hK, hz, hr, hnm, hlk⟩ := X
  subst hre
  refine W.widen hc hs ?_
  exact W.vret hx hb hr (fun t ht hW => ⟨⟨_, g, σ, rfl, hp, by rw [ht]; exact hP, hD⟩, hS.F ht⟩) hS.2.2 d
theorem z_aret (X : z_cx p s m args meth c own cc nL ret nm D cy z0) {rc rs : Nat} {Post : Option Value → zSh → zIn → Prop} {v : Value} {rt : FieldType} (hc : cells ≤ rc) (hs : slots ≤ rs) (hre : ret = some rt) (hrt : (∃ n, rt = .object n) ∨ ∃ t, rt = .array t) (hv : v = .null ∨ ∃ a, v = .ref a) (d : decode cc pc = .ok (.areturn, 1)) (hp : Post (some v) g σ) : z_V p l e R s m args below meth c nL D cy z0 cells slots (MQ below (z_Qc D cy z0 Post) args s rc rs (z_A z0)) (pc) (L) ([v]) g σ := by
  intro H locs ls hP hD hS hL
  obtain ⟨hx, hb, hml, hown, hts, hN, hK, hz, hr, hnm, hlk⟩ := X
  subst hre
  refine W.widen hc hs ?_
  exact W.aret hx hb hr hrt hv (fun t ht hW => ⟨⟨_, g, σ, rfl, hp, by rw [ht]; exact hP, hD⟩, hS.F ht⟩) hS.2.2 d
end ZR
end
section
/-! the rows of z_V that touch the heap -/
def z_ob (g : zSh) (i ci : Nat) : Prop := i ∈ g.1 ∧ g.2.2.1 i = ci
def z_ar (g : zSh) (i t n : Nat) : Prop := i ∈ g.1 ∧ g.2.2.1 i = 10 + t ∧ g.2.2.2.1 i = n
def z_fa (own : String) (idx ci k : Nat) (ty : FieldType) (fin : Bool) : Prop := ∃ (C : String) (T : u_T) (N : Nat) (ty0 : Nat → FieldType), vwCl[ci]? = some (C, T, N) ∧ ci < 10 ∧ k < N ∧ (z_isr ci).length = N ∧ (∀ w ∈ u_ws C T N, w ∈ lw_good) ∧ (∀ k, k < N → parseFieldDescriptor (T k).2.2.1 = some (ty0 k)) ∧ (∀ a, a < N → ∀ b, b < N → a ≠ b → (T a).2.1 ≠ (T b).2.1) ∧ ty0 k = ty ∧ (T k).2.2.2 = fin ∧ (T k).1 = C ∧ (Cond.fieldLink own idx C (T k).2.1 (T k).2.2.1 ∈ lw_good ∨ ∃ host, Cond.fieldLinkNest own idx C (T k).2.1 (T k).2.2.1 host ∈ lw_nest)
def z_upR (r : Nat → Nat → Nat) (i k j : Nat) : Nat → Nat → Nat := fun i' k' => if i' = i then (if k' = k then j else r i' k') else r i' k'
theorem z_upR_ne {r : Nat → Nat → Nat} {i j k v : Nat} (h : j ≠ i) : z_upR r i k v j = r j := by funext k'; simp [z_upR, h]
def z_gr (g : zSh) (i k j : Nat) : zSh := (g.1, g.2.1, g.2.2.1, g.2.2.2.1, z_upR g.2.2.2.2 i k j)
theorem z_cel_ob {cy : Nat → ClassId} {g : zSh} {i ci : Nat} {f : Nat → Int32} (h : g.2.2.1 i = ci) (hc : ci < 10) : z_cel cy g i f = .inr (ci, (z_isr ci).mapIdx (fun k b => if b then z_rv g (g.2.2.2.2 i k) else .int (f k))) := by
  subst h; simp [z_cel, hc]
theorem z_cel_I {cy : Nat → ClassId} {g : zSh} {i n : Nat} {f : Nat → Int32} (h : g.2.2.1 i = 10 + 0) (hn : g.2.2.2.1 i = n) : z_cel cy g i f = .inl (cy 0, n, .inl f) := by simp [z_cel, h, hn]
theorem z_cel_Z {cy : Nat → ClassId} {g : zSh} {i n : Nat} {f : Nat → Int32} (h : g.2.2.1 i = 10 + 1) (hn : g.2.2.2.1 i = n) : z_cel cy g i f = .inl (cy 1, n, .inl f) := by simp [z_cel, h, hn]
theorem z_cel_J {cy : Nat → ClassId} {g : zSh} {i n : Nat} {f : Nat → Int32} (h : g.2.2.1 i = 10 + 2) (hn : g.2.2.2.1 i = n) : z_cel cy g i f = .inl (cy 2, n, .inr (.inl (fun k => (f k).toInt64))) := by simp [z_cel, h, hn]
theorem z_cel_Q {cy : Nat → ClassId} {g : zSh} {i n t : Nat} {f : Nat → Int32} (ht : 3 ≤ t) (h : g.2.2.1 i = 10 + t) (hn : g.2.2.2.1 i = n) : z_cel cy g i f = .inl (cy t, n, .inr (.inr (.inr (.inr (fun k => z_ro g (g.2.2.2.2 i k)))))) := by
  have h1 : ¬ 10 + t < 10 := by omega
  have h2 : ¬ 10 + t < 12 := by omega
  have h3 : ¬ 10 + t = 12 := by omega
  have h4 : ¬ t = 2 := by omega
  simp [z_cel, h, hn, h1, h2, h3, h4]
theorem z_set_f {cy : Nat → ClassId} {g : zSh} {σ : zIn} {A : Nat → Prop} {q i k : Nat} {v : Int32} {e' : va_E} (hD : va_D A (z_w cy g σ)) (hi : g.1[q]? = some i) (he : z_cel cy g i (upd (σ i) k v) = e') : (z_w cy g σ).set q (g.2.1 i, e') = z_w cy g (z_up σ i k v) :=
  z_set hD hi rfl rfl (fun j hj => by rw [z_up_ne hj]) (by rw [z_up_at]; exact he)
theorem z_set_r {cy : Nat → ClassId} {g : zSh} {σ : zIn} {A : Nat → Prop} {q i k j : Nat} {e' : va_E} (hD : va_D A (z_w cy g σ)) (hi : g.1[q]? = some i) (he : z_cel cy (z_gr g i k j) i (σ i) = e') : (z_w cy g σ).set q (g.2.1 i, e') = z_w cy (z_gr g i k j) σ :=
  z_set hD hi rfl rfl (fun y hy => by simp only [z_cel, z_gr, z_upR_ne hy]; rfl) he
theorem z_tys_at {cy : Nat → ClassId} {t : Nat} (ht : t < 7) : (z_tys cy)[t]? = some (cy t, z_aty t) := by
  match t, ht with
  | 0, _ => rfl
  | 1, _ => rfl
  | 2, _ => rfl
  | 3, _ => rfl
  | 4, _ => rfl
  | 5, _ => rfl
  | 6, _ => rfl

section ZR
variable {p : Program} {l : Launch} {e : Env} {R : Room} {s : State} {m : MethodId} {args : Array Value} {below : List Frame} {meth : Method} {c : Code} {cells slots : Nat} {Q : State → Prop} {own nm : String} {cc : ByteArray} {nL : Nat} {ret : Option FieldType} {D : va_G} {cy : Nat → ClassId} {z0 pc : Nat} {L : List (Option Value)} {st : List Value} {g : zSh} {σ : zIn}

theorem z_geti (X : z_cx p s m args meth c own cc nL ret nm D cy z0) {idx ci k i : Nat} {ty : FieldType} {fin : Bool} (F : z_fa own idx ci k ty fin) (ho : z_ob g i ci)  (hb : (z_isr ci)[k]? = some false) (d : decode cc pc = .ok (.getfield idx, 3)) (kk : z_V p l e R s m args below meth c nL D cy z0 cells slots Q (pc + 3) (L) (.int (σ i k) :: st) g σ) : z_V p l e R s m args below meth c nL D cy z0 cells slots Q (pc) (L) (.ref (g.2.1 i) :: st) g σ := by
  intro H locs ls hP hD hS hL
  obtain ⟨hx, hb', hml, hown, hts, hN, hK, hz, hr, hnm, hlk⟩ := X
  obtain ⟨hi, hk9⟩ := ho
  obtain ⟨C, T, N, ty0, f1, f2, f3, f4, f5, f6, f7, f8, f9, f10, f11⟩ := F
  obtain ⟨q, q1, q2⟩ := z_get_k (cy := cy) (σ := σ) hi
  rw [z_cel_ob hk9 f2] at q2
  have hv : ((z_isr ci).mapIdx (fun k b => if b then z_rv g (g.2.2.2.2 i k) else Value.int (σ i k)))[k]? = some (.int (σ i k)) := by
    rw [List.getElem?_mapIdx, hb]; rfl
  rcases f11 with f11 | ⟨host, f11⟩
  · exact va_get (T := T) (N := N) hx hb' hts f5 hown hK hP q q2 f1 k f3 (hts _ f11) (fun x h => by rw [f10] at h; exact h) hv d (kk H locs ls hP hD hS hL)
  · exact va_getN (T := T) (N := N) (host := host) hx hb' hts f5 hown hK hP q q2 f1 k f3 (va_Nw.use rfl (hN _ f11)) (fun x h => by rw [f10] at h; exact h) hv d (kk H locs ls hP hD hS hL)
theorem z_getr (X : z_cx p s m args meth c own cc nL ret nm D cy z0) {idx ci k i : Nat} {ty : FieldType} {fin : Bool} (F : z_fa own idx ci k ty fin) (ho : z_ob g i ci) {j : Nat} (hr2 : g.2.2.2.2 i k = j) (hj : j ≠ 0) (hb : (z_isr ci)[k]? = some true) (d : decode cc pc = .ok (.getfield idx, 3)) (kk : z_V p l e R s m args below meth c nL D cy z0 cells slots Q (pc + 3) (L) (.ref (g.2.1 j) :: st) g σ) : z_V p l e R s m args below meth c nL D cy z0 cells slots Q (pc) (L) (.ref (g.2.1 i) :: st) g σ := by
  intro H locs ls hP hD hS hL
  obtain ⟨hx, hb', hml, hown, hts, hN, hK, hz, hr, hnm, hlk⟩ := X
  obtain ⟨hi, hk9⟩ := ho
  obtain ⟨C, T, N, ty0, f1, f2, f3, f4, f5, f6, f7, f8, f9, f10, f11⟩ := F
  obtain ⟨q, q1, q2⟩ := z_get_k (cy := cy) (σ := σ) hi
  rw [z_cel_ob hk9 f2] at q2
  have hv : ((z_isr ci).mapIdx (fun k b => if b then z_rv g (g.2.2.2.2 i k) else Value.int (σ i k)))[k]? = some (.ref (g.2.1 j)) := by
    rw [List.getElem?_mapIdx, hb]; simp [z_rv, z_ro, hr2, hj, va_rf]
  rcases f11 with f11 | ⟨host, f11⟩
  · exact va_get (T := T) (N := N) hx hb' hts f5 hown hK hP q q2 f1 k f3 (hts _ f11) (fun x h => by rw [f10] at h; exact h) hv d (kk H locs ls hP hD hS hL)
  · exact va_getN (T := T) (N := N) (host := host) hx hb' hts f5 hown hK hP q q2 f1 k f3 (va_Nw.use rfl (hN _ f11)) (fun x h => by rw [f10] at h; exact h) hv d (kk H locs ls hP hD hS hL)
theorem z_puti (X : z_cx p s m args meth c own cc nL ret nm D cy z0) {idx ci k i : Nat} (F : z_fa own idx ci k .int false) (ho : z_ob g i ci) {v : Int32}  (hb : (z_isr ci)[k]? = some false) (d : decode cc pc = .ok (.putfield idx, 3)) (kk : z_V p l e R s m args below meth c nL D cy z0 cells slots Q (pc + 3) (L) (st) g (z_up σ i k v)) : z_V p l e R s m args below meth c nL D cy z0 cells slots Q (pc) (L) (.int v :: .ref (g.2.1 i) :: st) g σ := by
  intro H locs ls hP hD hS hL
  obtain ⟨hx, hb', hml, hown, hts, hN, hK, hz, hr, hnm, hlk⟩ := X
  obtain ⟨hi, hk9⟩ := ho
  obtain ⟨C, T, N, ty0, f1, f2, f3, f4, f5, f6, f7, f8, f9, f10, f11⟩ := F
  obtain ⟨q, q1, q2⟩ := z_get_k (cy := cy) (σ := σ) hi
  rw [z_cel_ob hk9 f2] at q2
  have hl : k < ((z_isr ci).mapIdx (fun k b => if b then z_rv g (g.2.2.2.2 i k) else Value.int (σ i k))).length := by rw [List.length_mapIdx, f4]; exact f3
  have he : (.inr (ci, ((z_isr ci).mapIdx (fun k b => if b then z_rv g (g.2.2.2.2 i k) else Value.int (σ i k))).set k (.int v)) : va_E) = z_cel cy g i (upd (σ i) k v) := by
    rw [z_cel_ob hk9 f2]
    congr 2
    apply List.ext_getElem?
    intro n
    by_cases hn : n = k
    · subst hn
      rw [List.getElem?_set_self hl, List.getElem?_mapIdx, hb]
      simp [upd]
    · rw [List.getElem?_set_ne (Ne.symm hn), List.getElem?_mapIdx, List.getElem?_mapIdx]
      cases (z_isr ci)[n]? with
      | none => rfl
      | some b => cases b <;> simp [upd, hn]
  have hty : parseFieldDescriptor (T k).2.2.1 = some .int := by rw [f6 k f3, f8]
  have hnr : narrow .int (.int v) = .int v := rfl
  have hft9 : fits .int (.int v) = true := rfl
  rcases f11 with f11 | ⟨host, f11⟩
  · exact va_put (T := T) (N := N) hx hb' hts f5 ty0 f6 f7 hown hK hP hD hS q q2 f1 k f3 (hts _ f11) (fun x h => by rw [f10] at h; exact h) f9 hty hnr hft9 hl d (fun H1 locs1 h1 h2 h3 => by rw [he, z_set_f hD q1 rfl] at h1 h2; exact kk H1 locs1 ls h1 h2 h3 hL)
  · exact va_putN (T := T) (N := N) (host := host) hx hb' hts f5 ty0 f6 f7 hown hK hP hD hS q q2 f1 k f3 (va_Nw.use rfl (hN _ f11)) (fun x h => by rw [f10] at h; exact h) f9 hty hnr hft9 hl d (fun H1 locs1 h1 h2 h3 => by rw [he, z_set_f hD q1 rfl] at h1 h2; exact kk H1 locs1 ls h1 h2 h3 hL)
theorem z_putz (X : z_cx p s m args meth c own cc nL ret nm D cy z0) {idx ci k i : Nat} (F : z_fa own idx ci k .boolean false) (ho : z_ob g i ci) {v : Int32} (hv : v = 0 ∨ v = 1) (hb : (z_isr ci)[k]? = some false) (d : decode cc pc = .ok (.putfield idx, 3)) (kk : z_V p l e R s m args below meth c nL D cy z0 cells slots Q (pc + 3) (L) (st) g (z_up σ i k v)) : z_V p l e R s m args below meth c nL D cy z0 cells slots Q (pc) (L) (.int v :: .ref (g.2.1 i) :: st) g σ := by
  intro H locs ls hP hD hS hL
  obtain ⟨hx, hb', hml, hown, hts, hN, hK, hz, hr, hnm, hlk⟩ := X
  obtain ⟨hi, hk9⟩ := ho
  obtain ⟨C, T, N, ty0, f1, f2, f3, f4, f5, f6, f7, f8, f9, f10, f11⟩ := F
  obtain ⟨q, q1, q2⟩ := z_get_k (cy := cy) (σ := σ) hi
  rw [z_cel_ob hk9 f2] at q2
  have hl : k < ((z_isr ci).mapIdx (fun k b => if b then z_rv g (g.2.2.2.2 i k) else Value.int (σ i k))).length := by rw [List.length_mapIdx, f4]; exact f3
  have he : (.inr (ci, ((z_isr ci).mapIdx (fun k b => if b then z_rv g (g.2.2.2.2 i k) else Value.int (σ i k))).set k (.int v)) : va_E) = z_cel cy g i (upd (σ i) k v) := by
    rw [z_cel_ob hk9 f2]
    congr 2
    apply List.ext_getElem?
    intro n
    by_cases hn : n = k
    · subst hn
      rw [List.getElem?_set_self hl, List.getElem?_mapIdx, hb]
      simp [upd]
    · rw [List.getElem?_set_ne (Ne.symm hn), List.getElem?_mapIdx, List.getElem?_mapIdx]
      cases (z_isr ci)[n]? with
      | none => rfl
      | some b => cases b <;> simp [upd, hn]
  have hty : parseFieldDescriptor (T k).2.2.1 = some .boolean := by rw [f6 k f3, f8]
  have hnr : narrow .boolean (.int v) = .int v := by rcases hv with rfl | rfl <;> rfl
  have hft9 : fits .boolean (.int v) = true := by rcases hv with rfl | rfl <;> rfl
  rcases f11 with f11 | ⟨host, f11⟩
  · exact va_put (T := T) (N := N) hx hb' hts f5 ty0 f6 f7 hown hK hP hD hS q q2 f1 k f3 (hts _ f11) (fun x h => by rw [f10] at h; exact h) f9 hty hnr hft9 hl d (fun H1 locs1 h1 h2 h3 => by rw [he, z_set_f hD q1 rfl] at h1 h2; exact kk H1 locs1 ls h1 h2 h3 hL)
  · exact va_putN (T := T) (N := N) (host := host) hx hb' hts f5 ty0 f6 f7 hown hK hP hD hS q q2 f1 k f3 (va_Nw.use rfl (hN _ f11)) (fun x h => by rw [f10] at h; exact h) f9 hty hnr hft9 hl d (fun H1 locs1 h1 h2 h3 => by rw [he, z_set_f hD q1 rfl] at h1 h2; exact kk H1 locs1 ls h1 h2 h3 hL)
def z_fp (own : String) (idx ci k : Nat) (ty : FieldType) : Prop := ∃ (T : u_T) (N : Nat) (ty0 : Nat → FieldType), vwCl[ci]? = some (own, T, N) ∧ ci < 10 ∧ k < N ∧ (z_isr ci).length = N ∧ (∀ w ∈ u_ws own T N, w ∈ lw_good) ∧ (∀ k, k < N → parseFieldDescriptor (T k).2.2.1 = some (ty0 k)) ∧ (∀ a, a < N → ∀ b, b < N → a ≠ b → (T a).2.1 ≠ (T b).2.1) ∧ ty0 k = ty ∧ (T k).2.2.2 = true ∧ (T k).1 = own ∧ Cond.fieldLink own idx own (T k).2.1 (T k).2.2.1 ∈ lw_good
theorem z_putfi (X : z_cx p s m args meth c own cc nL ret nm D cy z0) {idx ci k i : Nat} (F : z_fp own idx ci k .int) (ho : z_ob g i ci) {v : Int32}  (hb : (z_isr ci)[k]? = some false) (hnm9 : nm = "<init>") (d : decode cc pc = .ok (.putfield idx, 3)) (kk : z_V p l e R s m args below meth c nL D cy z0 cells slots Q (pc + 3) (L) (st) g (z_up σ i k v)) : z_V p l e R s m args below meth c nL D cy z0 cells slots Q (pc) (L) (.int v :: .ref (g.2.1 i) :: st) g σ := by
  intro H locs ls hP hD hS hL
  obtain ⟨hx, hb', hml, hown, hts, hN, hK, hz, hr, hnm, hlk⟩ := X
  obtain ⟨hi, hk9⟩ := ho
  obtain ⟨T, N, ty0, f1, f2, f3, f4, f5, f6, f7, f8, f9, f10, f11⟩ := F
  obtain ⟨q, q1, q2⟩ := z_get_k (cy := cy) (σ := σ) hi
  rw [z_cel_ob hk9 f2] at q2
  have hl : k < ((z_isr ci).mapIdx (fun k b => if b then z_rv g (g.2.2.2.2 i k) else Value.int (σ i k))).length := by rw [List.length_mapIdx, f4]; exact f3
  have he : (.inr (ci, ((z_isr ci).mapIdx (fun k b => if b then z_rv g (g.2.2.2.2 i k) else Value.int (σ i k))).set k (.int v)) : va_E) = z_cel cy g i (upd (σ i) k v) := by
    rw [z_cel_ob hk9 f2]
    congr 2
    apply List.ext_getElem?
    intro n
    by_cases hn : n = k
    · subst hn
      rw [List.getElem?_set_self hl, List.getElem?_mapIdx, hb]
      simp [upd]
    · rw [List.getElem?_set_ne (Ne.symm hn), List.getElem?_mapIdx, List.getElem?_mapIdx]
      cases (z_isr ci)[n]? with
      | none => rfl
      | some b => cases b <;> simp [upd, hn]
  have hty : parseFieldDescriptor (T k).2.2.1 = some .int := by rw [f6 k f3, f8]
  have hnr : narrow .int (.int v) = .int v := rfl
  have hft9 : fits .int (.int v) = true := rfl
  exact va_putF (T := T) (N := N) hx hb' hts f5 ty0 f6 f7 hown hK hP hD hS q q2 f1 k f3 (hts _ f11) (fun x h => by rw [f10] at h; exact h) f9 (hnm.trans hnm9) f10 hty hnr hft9 hl d (fun H1 locs1 h1 h2 h3 => by rw [he, z_set_f hD q1 rfl] at h1 h2; exact kk H1 locs1 ls h1 h2 h3 hL)
theorem z_putfz (X : z_cx p s m args meth c own cc nL ret nm D cy z0) {idx ci k i : Nat} (F : z_fp own idx ci k .boolean) (ho : z_ob g i ci) {v : Int32} (hv : v = 0 ∨ v = 1) (hb : (z_isr ci)[k]? = some false) (hnm9 : nm = "<init>") (d : decode cc pc = .ok (.putfield idx, 3)) (kk : z_V p l e R s m args below meth c nL D cy z0 cells slots Q (pc + 3) (L) (st) g (z_up σ i k v)) : z_V p l e R s m args below meth c nL D cy z0 cells slots Q (pc) (L) (.int v :: .ref (g.2.1 i) :: st) g σ := by
  intro H locs ls hP hD hS hL
  obtain ⟨hx, hb', hml, hown, hts, hN, hK, hz, hr, hnm, hlk⟩ := X
  obtain ⟨hi, hk9⟩ := ho
  obtain ⟨T, N, ty0, f1, f2, f3, f4, f5, f6, f7, f8, f9, f10, f11⟩ := F
  obtain ⟨q, q1, q2⟩ := z_get_k (cy := cy) (σ := σ) hi
  rw [z_cel_ob hk9 f2] at q2
  have hl : k < ((z_isr ci).mapIdx (fun k b => if b then z_rv g (g.2.2.2.2 i k) else Value.int (σ i k))).length := by rw [List.length_mapIdx, f4]; exact f3
  have he : (.inr (ci, ((z_isr ci).mapIdx (fun k b => if b then z_rv g (g.2.2.2.2 i k) else Value.int (σ i k))).set k (.int v)) : va_E) = z_cel cy g i (upd (σ i) k v) := by
    rw [z_cel_ob hk9 f2]
    congr 2
    apply List.ext_getElem?
    intro n
    by_cases hn : n = k
    · subst hn
      rw [List.getElem?_set_self hl, List.getElem?_mapIdx, hb]
      simp [upd]
    · rw [List.getElem?_set_ne (Ne.symm hn), List.getElem?_mapIdx, List.getElem?_mapIdx]
      cases (z_isr ci)[n]? with
      | none => rfl
      | some b => cases b <;> simp [upd, hn]
  have hty : parseFieldDescriptor (T k).2.2.1 = some .boolean := by rw [f6 k f3, f8]
  have hnr : narrow .boolean (.int v) = .int v := by rcases hv with rfl | rfl <;> rfl
  have hft9 : fits .boolean (.int v) = true := by rcases hv with rfl | rfl <;> rfl
  exact va_putF (T := T) (N := N) hx hb' hts f5 ty0 f6 f7 hown hK hP hD hS q q2 f1 k f3 (hts _ f11) (fun x h => by rw [f10] at h; exact h) f9 (hnm.trans hnm9) f10 hty hnr hft9 hl d (fun H1 locs1 h1 h2 h3 => by rw [he, z_set_f hD q1 rfl] at h1 h2; exact kk H1 locs1 ls h1 h2 h3 hL)
theorem z_putfr (X : z_cx p s m args meth c own cc nL ret nm D cy z0) {idx ci k i j : Nat} {ty : FieldType} (F : z_fp own idx ci k ty) (ho : z_ob g i ci) (hj : j ≠ 0) (hnr : ∀ a, narrow ty (.ref a) = .ref a) (hft : ∀ a, fits ty (.ref a) = true) (hb : (z_isr ci)[k]? = some true) (hnm9 : nm = "<init>") (d : decode cc pc = .ok (.putfield idx, 3)) (kk : z_V p l e R s m args below meth c nL D cy z0 cells slots Q (pc + 3) (L) (st) (z_gr g i k j) σ) : z_V p l e R s m args below meth c nL D cy z0 cells slots Q (pc) (L) (.ref (g.2.1 j) :: .ref (g.2.1 i) :: st) g σ := by
  intro H locs ls hP hD hS hL
  obtain ⟨hx, hb', hml, hown, hts, hN, hK, hz, hr, hnm, hlk⟩ := X
  obtain ⟨hi, hk9⟩ := ho
  obtain ⟨T, N, ty0, f1, f2, f3, f4, f5, f6, f7, f8, f9, f10, f11⟩ := F
  obtain ⟨q, q1, q2⟩ := z_get_k (cy := cy) (σ := σ) hi
  rw [z_cel_ob hk9 f2] at q2
  have hl : k < ((z_isr ci).mapIdx (fun k b => if b then z_rv g (g.2.2.2.2 i k) else Value.int (σ i k))).length := by rw [List.length_mapIdx, f4]; exact f3
  have he : (.inr (ci, ((z_isr ci).mapIdx (fun k b => if b then z_rv g (g.2.2.2.2 i k) else Value.int (σ i k))).set k (.ref (g.2.1 j))) : va_E) = z_cel cy (z_gr g i k j) i (σ i) := by
    rw [z_cel_ob (show (z_gr g i k j).2.2.1 i = ci from hk9) f2]
    congr 2
    apply List.ext_getElem?
    intro n
    by_cases hn : n = k
    · subst hn
      rw [List.getElem?_set_self hl, List.getElem?_mapIdx, hb]
      simp [z_gr, z_upR, z_rv, z_ro, hj, va_rf]
    · rw [List.getElem?_set_ne (Ne.symm hn), List.getElem?_mapIdx, List.getElem?_mapIdx]
      cases (z_isr ci)[n]? with
      | none => rfl
      | some b => cases b <;> simp [z_gr, z_upR, hn, z_rv, z_ro]
  have hty : parseFieldDescriptor (T k).2.2.1 = some ty := by rw [f6 k f3, f8]
  exact va_putF (T := T) (N := N) hx hb' hts f5 ty0 f6 f7 hown hK hP hD hS q q2 f1 k f3 (hts _ f11) (fun x h => by rw [f10] at h; exact h) f9 (hnm.trans hnm9) f10 hty (hnr _) (hft _) hl d (fun H1 locs1 h1 h2 h3 => by rw [he, z_set_r hD q1 rfl] at h1 h2; exact kk H1 locs1 ls h1 h2 h3 hL)
theorem z_iald (X : z_cx p s m args meth c own cc nL ret nm D cy z0) {i n : Nat} {x : Int32} (ha : z_ar g i 0 n) (hin : vp_in x n) (d : decode cc pc = .ok (.iaload, 1)) (kk : z_V p l e R s m args below meth c nL D cy z0 cells slots Q (pc + 1) (L) (.int (σ i x.toNatClampNeg) :: st) g σ) : z_V p l e R s m args below meth c nL D cy z0 cells slots Q (pc) (L) (.int x :: .ref (g.2.1 i) :: st) g σ := by
  intro H locs ls hP hD hS hL
  obtain ⟨hx, hb', hml, hown, hts, hN, hK, hz, hr, hnm, hlk⟩ := X
  obtain ⟨hi, hk9, hn9⟩ := ha
  obtain ⟨q, q1, q2⟩ := z_get_k (cy := cy) (σ := σ) hi
  rw [z_cel_I hk9 hn9] at q2
  exact va_iald hx hb' hK hP q 0 q2 rfl hin d (kk H locs ls hP hD hS hL)
theorem z_zald (X : z_cx p s m args meth c own cc nL ret nm D cy z0) {i n : Nat} {x : Int32} (ha : z_ar g i 1 n) (hin : vp_in x n) (d : decode cc pc = .ok (.baload, 1)) (kk : z_V p l e R s m args below meth c nL D cy z0 cells slots Q (pc + 1) (L) (.int (σ i x.toNatClampNeg) :: st) g σ) : z_V p l e R s m args below meth c nL D cy z0 cells slots Q (pc) (L) (.int x :: .ref (g.2.1 i) :: st) g σ := by
  intro H locs ls hP hD hS hL
  obtain ⟨hx, hb', hml, hown, hts, hN, hK, hz, hr, hnm, hlk⟩ := X
  obtain ⟨hi, hk9, hn9⟩ := ha
  obtain ⟨q, q1, q2⟩ := z_get_k (cy := cy) (σ := σ) hi
  rw [z_cel_Z hk9 hn9] at q2
  exact va_zald hx hb' hK hP q 1 q2 rfl hin d (kk H locs ls hP hD hS hL)
theorem z_iast (X : z_cx p s m args meth c own cc nL ret nm D cy z0) {i n : Nat} {x v : Int32} (ha : z_ar g i 0 n) (hin : vp_in x n)  (d : decode cc pc = .ok (.iastore, 1)) (kk : z_V p l e R s m args below meth c nL D cy z0 cells slots Q (pc + 1) (L) (st) g (z_up σ i x.toNatClampNeg v)) : z_V p l e R s m args below meth c nL D cy z0 cells slots Q (pc) (L) (.int v :: .int x :: .ref (g.2.1 i) :: st) g σ := by
  intro H locs ls hP hD hS hL
  obtain ⟨hx, hb', hml, hown, hts, hN, hK, hz, hr, hnm, hlk⟩ := X
  obtain ⟨hi, hk9, hn9⟩ := ha
  obtain ⟨q, q1, q2⟩ := z_get_k (cy := cy) (σ := σ) hi
  rw [z_cel_I hk9 hn9] at q2
  exact va_iast hx hb' hK hP hD hS q 0 q2 rfl hin d (fun H1 locs1 h1 h2 h3 => by rw [z_set_f hD q1 (z_cel_I hk9 hn9)] at h1 h2; exact kk H1 locs1 ls h1 h2 h3 hL)
theorem z_zast (X : z_cx p s m args meth c own cc nL ret nm D cy z0) {i n : Nat} {x v : Int32} (ha : z_ar g i 1 n) (hin : vp_in x n) (hv : v = 0 ∨ v = 1) (d : decode cc pc = .ok (.bastore, 1)) (kk : z_V p l e R s m args below meth c nL D cy z0 cells slots Q (pc + 1) (L) (st) g (z_up σ i x.toNatClampNeg v)) : z_V p l e R s m args below meth c nL D cy z0 cells slots Q (pc) (L) (.int v :: .int x :: .ref (g.2.1 i) :: st) g σ := by
  intro H locs ls hP hD hS hL
  obtain ⟨hx, hb', hml, hown, hts, hN, hK, hz, hr, hnm, hlk⟩ := X
  obtain ⟨hi, hk9, hn9⟩ := ha
  obtain ⟨q, q1, q2⟩ := z_get_k (cy := cy) (σ := σ) hi
  have hnv : vp_nar .boolean v = v := by rcases hv with rfl | rfl <;> rfl
  rw [z_cel_Z hk9 hn9] at q2
  exact va_zast hx hb' hK hP hD hS q 1 q2 rfl hin d (fun H1 locs1 h1 h2 h3 => by rw [hnv] at h1 h2; rw [z_set_f hD q1 (z_cel_Z hk9 hn9)] at h1 h2; exact kk H1 locs1 ls h1 h2 h3 hL)
theorem z_lald (X : z_cx p s m args meth c own cc nL ret nm D cy z0) {i n : Nat} {x : Int32} (ha : z_ar g i 2 n) (hin : vp_in x n) (d : decode cc pc = .ok (.laload, 1)) (kk : z_V p l e R s m args below meth c nL D cy z0 cells slots Q (pc + 1) (L) (.long (σ i x.toNatClampNeg).toInt64 :: st) g σ) : z_V p l e R s m args below meth c nL D cy z0 cells slots Q (pc) (L) (.int x :: .ref (g.2.1 i) :: st) g σ := by
  intro H locs ls hP hD hS hL
  obtain ⟨hx, hb', hml, hown, hts, hN, hK, hz, hr, hnm, hlk⟩ := X
  obtain ⟨hi, hk9, hn9⟩ := ha
  obtain ⟨q, q1, q2⟩ := z_get_k (cy := cy) (σ := σ) hi
  rw [z_cel_J hk9 hn9] at q2
  exact va_lald hx hb' hK hP q 2 q2 rfl hin d (kk H locs ls hP hD hS hL)
theorem z_last (X : z_cx p s m args meth c own cc nL ret nm D cy z0) {i n : Nat} {x v : Int32} (ha : z_ar g i 2 n) (hin : vp_in x n) (d : decode cc pc = .ok (.lastore, 1)) (kk : z_V p l e R s m args below meth c nL D cy z0 cells slots Q (pc + 1) (L) (st) g (z_up σ i x.toNatClampNeg v)) : z_V p l e R s m args below meth c nL D cy z0 cells slots Q (pc) (L) (.long v.toInt64 :: .int x :: .ref (g.2.1 i) :: st) g σ := by
  intro H locs ls hP hD hS hL
  obtain ⟨hx, hb', hml, hown, hts, hN, hK, hz, hr, hnm, hlk⟩ := X
  obtain ⟨hi, hk9, hn9⟩ := ha
  obtain ⟨q, q1, q2⟩ := z_get_k (cy := cy) (σ := σ) hi
  rw [z_cel_J hk9 hn9] at q2
  have hu : vp_updL (fun k => (σ i k).toInt64) x.toNatClampNeg v.toInt64 = fun k => (upd (σ i) x.toNatClampNeg v k).toInt64 := by
    funext k; simp only [vp_updL, upd]; split <;> rfl
  exact va_last hx hb' hK hP hD hS q 2 q2 rfl hin d (fun H1 locs1 h1 h2 h3 => by rw [hu, z_set_f hD q1 (z_cel_J hk9 hn9)] at h1 h2; exact kk H1 locs1 ls h1 h2 h3 hL)
theorem z_aald (X : z_cx p s m args meth c own cc nL ret nm D cy z0) {i n t : Nat} {x : Int32} {C : String} (ht : 3 ≤ t ∧ t < 7) (htc : z_aty t = .object C) (ha : z_ar g i t n) (hin : vp_in x n) {j : Nat} (hr2 : g.2.2.2.2 i x.toNatClampNeg = j) (hj : j ≠ 0) (d : decode cc pc = .ok (.aaload, 1)) (kk : z_V p l e R s m args below meth c nL D cy z0 cells slots Q (pc + 1) (L) (.ref (g.2.1 j) :: st) g σ) : z_V p l e R s m args below meth c nL D cy z0 cells slots Q (pc) (L) (.int x :: .ref (g.2.1 i) :: st) g σ := by
  intro H locs ls hP hD hS hL
  obtain ⟨hx, hb', hml, hown, hts, hN, hK, hz, hr, hnm, hlk⟩ := X
  obtain ⟨hi, hk9, hn9⟩ := ha
  obtain ⟨q, q1, q2⟩ := z_get_k (cy := cy) (σ := σ) hi
  rw [z_cel_Q ht.1 hk9 hn9] at q2
  have hty := z_tys_at (cy := cy) ht.2
  rw [htc] at hty
  have hv : va_rf (z_ro g (g.2.2.2.2 i x.toNatClampNeg)) = .ref (g.2.1 j) := by simp [z_ro, hr2, hj, va_rf]
  exact va_aldq hx hb' hK hP q t q2 hty hin d (by rw [hv]; exact kk H locs ls hP hD hS hL)
theorem z_aaldN (X : z_cx p s m args meth c own cc nL ret nm D cy z0) {i n t : Nat} {x : Int32} {C : String} (ht : 3 ≤ t ∧ t < 7) (htc : z_aty t = .object C) (ha : z_ar g i t n) (hin : vp_in x n) (hr2 : g.2.2.2.2 i x.toNatClampNeg = 0) (d : decode cc pc = .ok (.aaload, 1)) (kk : z_V p l e R s m args below meth c nL D cy z0 cells slots Q (pc + 1) (L) (.null :: st) g σ) : z_V p l e R s m args below meth c nL D cy z0 cells slots Q (pc) (L) (.int x :: .ref (g.2.1 i) :: st) g σ := by
  intro H locs ls hP hD hS hL
  obtain ⟨hx, hb', hml, hown, hts, hN, hK, hz, hr, hnm, hlk⟩ := X
  obtain ⟨hi, hk9, hn9⟩ := ha
  obtain ⟨q, q1, q2⟩ := z_get_k (cy := cy) (σ := σ) hi
  rw [z_cel_Q ht.1 hk9 hn9] at q2
  have hty := z_tys_at (cy := cy) ht.2
  rw [htc] at hty
  have hv : va_rf (z_ro g (g.2.2.2.2 i x.toNatClampNeg)) = .null := by simp [z_ro, hr2, va_rf]
  exact va_aldq hx hb' hK hP q t q2 hty hin d (by rw [hv]; exact kk H locs ls hP hD hS hL)
theorem z_aast (X : z_cx p s m args meth c own cc nL ret nm D cy z0) {i n t j ci : Nat} {x : Int32} {r : vw_C} (ht : 3 ≤ t ∧ t < 7) (hc : vwCl[ci]? = some r) (hc10 : ci < 10) (htc : z_aty t = .object r.1) (ha : z_ar g i t n) (hin : vp_in x n) (ho : z_ob g j ci) (hj : j ≠ 0) (d : decode cc pc = .ok (.aastore, 1)) (kk : z_V p l e R s m args below meth c nL D cy z0 cells slots Q (pc + 1) (L) (st) (z_gr g i x.toNatClampNeg j) σ) : z_V p l e R s m args below meth c nL D cy z0 cells slots Q (pc) (L) (.ref (g.2.1 j) :: .int x :: .ref (g.2.1 i) :: st) g σ := by
  intro H locs ls hP hD hS hL
  obtain ⟨hx, hb', hml, hown, hts, hN, hK, hz, hr, hnm, hlk⟩ := X
  obtain ⟨hi, hk9, hn9⟩ := ha
  obtain ⟨q, q1, q2⟩ := z_get_k (cy := cy) (σ := σ) hi
  rw [z_cel_Q ht.1 hk9 hn9] at q2
  have hty := z_tys_at (cy := cy) ht.2
  rw [htc] at hty
  obtain ⟨qq, -, q4⟩ := z_get_k (cy := cy) (σ := σ) ho.1
  rw [z_cel_ob ho.2 hc10] at q4
  have hu : va_up (fun k => z_ro g (g.2.2.2.2 i k)) x.toNatClampNeg (some (g.2.1 j)) = fun k => z_ro (z_gr g i x.toNatClampNeg j) ((z_gr g i x.toNatClampNeg j).2.2.2.2 i k) := by
    funext k; simp only [va_up, z_gr, z_upR, z_ro]; split <;> simp_all
  exact va_astq hx hb' hK hP hD hS q t qq ci q2 hty q4 hc hin d (fun H1 locs1 h1 h2 h3 => by rw [hu, z_set_r (k := x.toNatClampNeg) (j := j) hD q1 (z_cel_Q ht.1 (show (z_gr g i x.toNatClampNeg j).2.2.1 i = 10 + t from hk9) (show (z_gr g i x.toNatClampNeg j).2.2.2.1 i = n from hn9))] at h1 h2; exact kk H1 locs1 ls h1 h2 h3 hL)
theorem z_alen (X : z_cx p s m args meth c own cc nL ret nm D cy z0) {i n t : Nat} (ht : t < 7) (ha : z_ar g i t n) (d : decode cc pc = .ok (.arraylength, 1)) (kk : z_V p l e R s m args below meth c nL D cy z0 cells slots Q (pc + 1) (L) (.int (nI n) :: st) g σ) : z_V p l e R s m args below meth c nL D cy z0 cells slots Q (pc) (L) (.ref (g.2.1 i) :: st) g σ := by
  intro H locs ls hP hD hS hL
  obtain ⟨hx, hb', hml, hown, hts, hN, hK, hz, hr, hnm, hlk⟩ := X
  obtain ⟨hi, hk9, hn9⟩ := ha
  obtain ⟨q, q1, q2⟩ := z_get_k (cy := cy) (σ := σ) hi
  have hty := z_tys_at (cy := cy) ht
  have hc : ∃ x : vp_A, x.1 = n ∧ z_cel cy g i (σ i) = .inl (cy t, x) := by
    match t, ht with
    | 0, _ => exact ⟨_, rfl, z_cel_I hk9 hn9⟩
    | 1, _ => exact ⟨_, rfl, z_cel_Z hk9 hn9⟩
    | 2, _ => exact ⟨_, rfl, z_cel_J hk9 hn9⟩
    | t + 3, _ => exact ⟨_, rfl, z_cel_Q (by omega) hk9 hn9⟩
  obtain ⟨x, hx1, hx2⟩ := hc
  rw [hx2] at q2
  exact va_alen hx hb' hK hP q t q2 hty (by rw [hx1]; rfl) d (kk H locs ls hP hD hS hL)
end ZR
end
section
/-! calls and allocations -/
def z_cc (own : String) (idx : Nat) (M : zM) (n : Nat) : Prop := (Cond.methodLink own idx M.1 ∈ lw_good ∨ ∃ host, Cond.methodLinkNest own idx M.1 host ∈ lw_nest) ∧ Cond.code M.1 M.2.1 M.2.2.1 M.2.2.2.1 ∈ lw_good ∧ Cond.initialized M.1.cls ∈ lw_good ∧ (M.1.cls ≠ "java/lang/invoke/MethodHandle" ∧ M.1.cls ≠ "java/lang/invoke/VarHandle") ∧ (parseMethodDescriptor M.1.desc).map (fun d => d.parameters.length) = some n
def z_cV (own : String) (idx : Nat) (M : zM) (n ci : Nat) : Prop := z_cc own idx M n ∧ Cond.instanceMethod M.1 ∈ lw_good ∧ Cond.selects M.1.cls M.1 M.1 ∈ lw_good ∧ ci < 10 ∧ (vwCl[ci]?).map (fun r => r.1) = some M.1.cls
def z_cS (own : String) (idx : Nat) (M : zM) (n : Nat) : Prop := z_cc own idx M n ∧ Cond.static M.1 ∈ lw_good
def z_cI (own : String) (idx : Nat) (M : zM) (n : Nat) : Prop := z_cc own idx M n ∧ M.1.name = "<init>" ∧ Cond.instanceMethod M.1 ∈ lw_good ∧ M.2.2.2.1 = none
theorem z_goodIn {M : zM} {w0 : Cond} (h : Cond.code M.1 M.2.1 M.2.2.1 M.2.2.2.1 ∈ lw_good) : GoodIn lw_good (.code M.1 M.2.1 M.2.2.1 M.2.2.2.1 :: lw_good) := by
  intro w hw
  rcases List.mem_cons.mp hw with rfl | hw
  · exact ⟨h, good_of_word (List.mem_filter.mp h).2⟩
  · exact ⟨hw, good_of_word (List.mem_filter.mp hw).2⟩
section ZR
variable {p : Program} {l : Launch} {e : Env} {R : Room} {s : State} {m : MethodId} {args : Array Value} {below : List Frame} {meth : Method} {c : Code} {cells slots : Nat} {Q : State → Prop} {own nm : String} {cc : ByteArray} {nL : Nat} {ret : Option FieldType} {D : va_G} {cy : Nat → ClassId} {z0 pc : Nat} {L : List (Option Value)} {st : List Value} {g : zSh} {σ : zIn}

theorem z_call {H : Heap} {locs : List Loc} {ls : Array Slot} {mc ms : Nat} {st0 rest : List Value} {a : Array Value} {Post : Option Value → zSh → zIn → Prop} (hr : va_Run p l e R s m args below meth c H locs cells slots mc ms (F0 m pc ls st0) rest (z_Qc D cy z0 Post a) (z_A z0)) (hS : va_S (z_A z0) s.heap H locs) (hL : z_L ls nL L)
    (kk : ∀ (v : Option Value) (g' : zSh) (σ' : zIn), Post v g' σ' → z_V p l e R s m args below meth c nL D cy z0 (cells + mc) (slots + ms) Q (pc + 3) (L) (v.toList ++ rest) g' σ') : W p l e R s m args below meth c H locs cells slots Q (F0 m pc ls st0) := by
  intro T hT X
  obtain ⟨v, st₀, t, T', L', h0, X', hL', e1, e2, ⟨⟨v', g', σ', hv, hp, hP1, hD1⟩, hz, hk⟩, stp⟩ := hr T hT X
  cases hv
  rw [h0] at hz hk
  obtain ⟨t2, a1, b1⟩ := kk v g' σ' hp T'.heap (locs ++ L') ls (by rw [e1]; exact hP1) hD1
    ⟨Nat.le_trans hS.1 (by rw [e1]; exact hz), fun q h1 h2 => by rw [e1, hk q (Nat.lt_of_lt_of_le h1 hS.1) h2]; exact hS.2.1 q h1 h2, fun q hq => by
      rcases List.mem_append.mp hq with h | h
      · exact hS.2.2 q h
      · exact hL' q h⟩ hL T' rfl X'
  exact ⟨t2, stp t2 a1, b1⟩
theorem z_runV (X : z_cx p s m args meth c own cc nL ret nm D cy z0) {idx n b ci : Nat} {M : zM} {As rest : List Value} {Post : Option Value → zSh → zIn → Prop} (F : z_cV own idx M n ci) (h : z_Ct l D cy z0 M (.ref (g.2.1 b) :: As) g σ Post) (ho : z_ob g b ci) (hn : As.length = n) (hst : st = As.reverse ++ .ref (g.2.1 b) :: rest) (hcat : (rest.map fun v => v.category).sum ≤ 8) (hR : M.2.2.2.2.1 + 1 ≤ R.frames ∧ 8 + (M.2.2.1 + 11) + M.2.2.2.2.2.2.2 ≤ R.locals) (hc : cells + M.2.2.2.2.2.1 ≤ R.cells ∧ slots + M.2.2.2.2.2.2.1 ≤ R.slots) (d : decode cc pc = .ok (.invokevirtual idx, 3)) (kk : ∀ (v : Option Value) (g' : zSh) (σ' : zIn), Post v g' σ' → z_V p l e R s m args below meth c nL D cy z0 (cells + M.2.2.2.2.2.1) (slots + M.2.2.2.2.2.2.1) Q (pc + 3) (L) (v.toList ++ rest) g' σ') : z_V p l e R s m args below meth c nL D cy z0 cells slots Q (pc) (L) (st) g σ := by
  intro H locs ls hP hD hS hL
  obtain ⟨hx, hb', hml, hown, hts, hN, hK, hz, hr, hnm, hlk⟩ := X
  obtain ⟨⟨f1, f2, f3, f4, f5⟩, f6, f7, f8, f9⟩ := F
  subst hst
  have hpc : ∀ U : State, U.heap = H → s.WarmedH U.vm → z_Pc D cy z0 (.ref (g.2.1 b) :: As) g σ ((.ref (g.2.1 b) :: As)).toArray U := fun U hU hW => ⟨rfl, by rw [hU]; exact Nat.le_trans hz hS.1, by rw [hU]; exact hP, hD, va_K.moved hW.alike hK, lw_nest_warm hW hN⟩
  obtain ⟨q, q1, q2⟩ := z_get_k (cy := cy) (σ := σ) ho.1
  rw [z_cel_ob ho.2 f8] at q2
  obtain ⟨C9, hC1, hC2⟩ : ∃ r : vw_C, vwCl[ci]? = some r ∧ r.1 = M.1.cls := by
    cases hq : vwCl[ci]? with
    | none => rw [hq] at f9; cases f9
    | some r => rw [hq] at f9; exact ⟨r, rfl, Option.some.inj f9⟩
  have hrec := va_recv hK hP hC1 q2
  rw [hC2] at hrec
  rcases f1 with f1 | ⟨host, f1⟩
  · exact z_call (va_runV (C := M.1.cls) (b := g.2.1 b) (As := As) (rest := rest) ⟨hx, hb', hml, hown, hts⟩ h ⟨callB_of n hts (z_goodIn (w0 := .count 0) f2) rfl rfl rfl (hts _ f3) (hts _ f1) ⟨f4.1, f4.2, f5⟩ hR, hts _ f6, hts _ f7⟩ ⟨z_Pc_blind, hrec, hpc⟩ rfl hn hL.1.1 rfl (lv_room hcat) d hc) hS hL kk
  · exact z_call (va_runVN (C := M.1.cls) (b := g.2.1 b) (As := As) (rest := rest) ⟨hx, hb', hml, hown, hts⟩ h ⟨va_cnB n hts (z_goodIn (w0 := .count 0) f2) rfl rfl rfl (hN _ f1) (hts _ f3) ⟨f4.1, f4.2, f5⟩ hR, hts _ f6, hts _ f7⟩ ⟨z_Pc_blind, hrec, hpc⟩ rfl hn hL.1.1 rfl (lv_room hcat) d hc) hS hL kk
theorem z_runS (X : z_cx p s m args meth c own cc nL ret nm D cy z0) {idx n : Nat} {M : zM} {As rest : List Value} {Post : Option Value → zSh → zIn → Prop} (F : z_cS own idx M n) (h : z_Ct l D cy z0 M As g σ Post) (hn : As.length = n) (hst : st = As.reverse ++ rest) (hcat : (rest.map fun v => v.category).sum ≤ 8) (hR : M.2.2.2.2.1 + 1 ≤ R.frames ∧ 8 + (M.2.2.1 + 11) + M.2.2.2.2.2.2.2 ≤ R.locals) (hc : cells + M.2.2.2.2.2.1 ≤ R.cells ∧ slots + M.2.2.2.2.2.2.1 ≤ R.slots) (d : decode cc pc = .ok (.invokestatic idx, 3)) (kk : ∀ (v : Option Value) (g' : zSh) (σ' : zIn), Post v g' σ' → z_V p l e R s m args below meth c nL D cy z0 (cells + M.2.2.2.2.2.1) (slots + M.2.2.2.2.2.2.1) Q (pc + 3) (L) (v.toList ++ rest) g' σ') : z_V p l e R s m args below meth c nL D cy z0 cells slots Q (pc) (L) (st) g σ := by
  intro H locs ls hP hD hS hL
  obtain ⟨hx, hb', hml, hown, hts, hN, hK, hz, hr, hnm, hlk⟩ := X
  obtain ⟨⟨f1, f2, f3, f4, f5⟩, f6⟩ := F
  subst hst
  have hpc : ∀ U : State, U.heap = H → s.WarmedH U.vm → z_Pc D cy z0 As g σ (As).toArray U := fun U hU hW => ⟨rfl, by rw [hU]; exact Nat.le_trans hz hS.1, by rw [hU]; exact hP, hD, va_K.moved hW.alike hK, lw_nest_warm hW hN⟩
  rcases f1 with f1 | ⟨host, f1⟩
  · exact z_call (va_runS (As := As) (rest := rest) ⟨hx, hb', hml, hown, hts⟩ h ⟨callB_of n hts (z_goodIn (w0 := .count 0) f2) rfl rfl rfl (hts _ f3) (hts _ f1) ⟨f4.1, f4.2, f5⟩ hR, hts _ f6⟩ ⟨z_Pc_blind, hpc⟩ rfl hn hL.1.1 rfl (lv_room hcat) d hc) hS hL kk
  · exact z_call (va_runSN (As := As) (rest := rest) ⟨hx, hb', hml, hown, hts⟩ h ⟨va_cnB n hts (z_goodIn (w0 := .count 0) f2) rfl rfl rfl (hN _ f1) (hts _ f3) ⟨f4.1, f4.2, f5⟩ hR, hts _ f6, trivial⟩ ⟨z_Pc_blind, hpc⟩ rfl hn hL.1.1 rfl (lv_room hcat) d hc) hS hL kk
theorem z_runI (X : z_cx p s m args meth c own cc nL ret nm D cy z0) {idx n b : Nat} {M : zM} {As rest : List Value} {Post : Option Value → zSh → zIn → Prop} (F : z_cI own idx M n) (h : z_Ct l D cy z0 M (.ref (g.2.1 b) :: As) g σ Post) (hn : As.length = n) (hst : st = As.reverse ++ .ref (g.2.1 b) :: rest) (hcat : (rest.map fun v => v.category).sum ≤ 8) (hR : M.2.2.2.2.1 + 1 ≤ R.frames ∧ 8 + (M.2.2.1 + 11) + M.2.2.2.2.2.2.2 ≤ R.locals) (hc : cells + M.2.2.2.2.2.1 ≤ R.cells ∧ slots + M.2.2.2.2.2.2.1 ≤ R.slots) (d : decode cc pc = .ok (.invokespecial idx, 3)) (kk : ∀ (v : Option Value) (g' : zSh) (σ' : zIn), Post v g' σ' → z_V p l e R s m args below meth c nL D cy z0 (cells + M.2.2.2.2.2.1) (slots + M.2.2.2.2.2.2.1) Q (pc + 3) (L) (v.toList ++ rest) g' σ') : z_V p l e R s m args below meth c nL D cy z0 cells slots Q (pc) (L) (st) g σ := by
  intro H locs ls hP hD hS hL
  obtain ⟨hx, hb', hml, hown, hts, hN, hK, hz, hr, hnm, hlk⟩ := X
  obtain ⟨⟨f1, f2, f3, f4, f5⟩, f6, f7, f8⟩ := F
  subst hst
  have hpc : ∀ U : State, U.heap = H → s.WarmedH U.vm → z_Pc D cy z0 (.ref (g.2.1 b) :: As) g σ ((.ref (g.2.1 b) :: As)).toArray U := fun U hU hW => ⟨rfl, by rw [hU]; exact Nat.le_trans hz hS.1, by rw [hU]; exact hP, hD, va_K.moved hW.alike hK, lw_nest_warm hW hN⟩
  obtain ⟨My, Mc, Ml, Mr, Mf, Mcc, Ms, Mlo⟩ := M
  dsimp only at f8
  subst f8
  rcases f1 with f1 | ⟨host, f1⟩
  · exact z_call (va_runI (b := g.2.1 b) (As := As) (rest := rest) ⟨hx, hb', hml, hown, hts⟩ h ⟨callB_of n hts (z_goodIn (M := (My, Mc, Ml, none, Mf, Mcc, Ms, Mlo)) (w0 := .count 0) f2) rfl rfl rfl (hts _ f3) (hts _ f1) ⟨f4.1, f4.2, f5⟩ hR, f6, hts _ f7⟩ ⟨z_Pc_blind, hpc⟩ rfl hn hL.1.1 rfl (lv_room hcat) d hc) hS hL kk
  · exact z_call (va_runIN (b := g.2.1 b) (As := As) (rest := rest) ⟨hx, hb', hml, hown, hts⟩ h ⟨va_cnB n hts (z_goodIn (M := (My, Mc, Ml, none, Mf, Mcc, Ms, Mlo)) (w0 := .count 0) f2) rfl rfl rfl (hN _ f1) (hts _ f3) ⟨f4.1, f4.2, f5⟩ hR, f6, hts _ f7⟩ ⟨z_Pc_blind, hpc⟩ rfl hn hL.1.1 rfl (lv_room hcat) d hc) hS hL kk
theorem z_objInit (X : z_cx p s m args meth c own cc nL ret nm D cy z0) {idx x : Nat} (h1 : Cond.methodLink own idx Lib.objectInit ∈ lw_good) (h2 : Cond.instanceMethod Lib.objectInit ∈ lw_good) (h3 : Cond.code Lib.objectInit ⟨#[0xb1]⟩ 1 none ∈ lw_good) (hf : 1 ≤ R.frames) (hlo : (st.map fun v => v.category).sum + 12 ≤ R.locals) (d : decode cc pc = .ok (.invokespecial idx, 3)) (kk : z_V p l e R s m args below meth c nL D cy z0 cells slots Q (pc + 3) (L) (st) g σ) : z_V p l e R s m args below meth c nL D cy z0 cells slots Q (pc) (L) (.ref x :: st) g σ := by
  intro H locs ls hP hD hS hL
  obtain ⟨hx, hb', hml, hown, hts, hN, hK, hz, hr, hnm, hlk⟩ := X
  refine W.objInit hx hb' hown (hts _ h1) (hts _ h2) (hts _ h3) rfl (by rw [hml]; exact hL.1.1) rfl d hf (by show 2 * 0 + _ + 12 ≤ _; omega) ?_
  exact kk H locs ls hP hD hS hL
def z_add (g : zSh) (i a kd n : Nat) : zSh := (g.1 ++ [i], va_up g.2.1 i a, va_up g.2.2.1 i kd, va_up g.2.2.2.1 i n, fun i' k' => if i' = i then 0 else g.2.2.2.2 i' k')
def z_zero (σ : zIn) (i : Nat) : zIn := fun i' k' => if i' = i then 0 else σ i' k'
def z_wf (g : zSh) : Prop := ∀ j ∈ g.1, ∀ k, g.2.2.2.2 j k = 0 ∨ g.2.2.2.2 j k ∈ g.1
theorem z_w_add {cy : Nat → ClassId} {g : zSh} {σ : zIn} {i a kd n : Nat} {ce : va_E} (hw : z_wf g) (hi : i ∉ g.1) (hi0 : i ≠ 0) (hce : z_cel cy (z_add g i a kd n) i (fun _ => 0) = ce) : z_w cy g σ ++ [(a, ce)] = z_w cy (z_add g i a kd n) (z_zero σ i) := by
  have h1 : ∀ j ∈ g.1, (g.2.1 j, z_cel cy g j (σ j)) = ((z_add g i a kd n).2.1 j, z_cel cy (z_add g i a kd n) j (z_zero σ i j)) := by
    intro j hj
    have hne : j ≠ i := fun h => hi (h ▸ hj)
    have e1 : z_zero σ i j = σ j := by funext k; simp [z_zero, hne]
    have e2 : ∀ k, z_ro (z_add g i a kd n) (g.2.2.2.2 j k) = z_ro g (g.2.2.2.2 j k) := by
      intro k
      rcases hw j hj k with h | h
      · simp [z_ro, h]
      · have : g.2.2.2.2 j k ≠ i := fun e => hi (e ▸ h)
        simp [z_ro, z_add, va_up, this]
    rw [e1]
    refine Prod.ext ?_ ?_
    · simp [z_add, va_up, hne]
    · have e3 : (z_add g i a kd n).2.2.1 j = g.2.2.1 j := by simp [z_add, va_up, hne]
      have e4 : (z_add g i a kd n).2.2.2.1 j = g.2.2.2.1 j := by simp [z_add, va_up, hne]
      have e5 : (z_add g i a kd n).2.2.2.2 j = g.2.2.2.2 j := by funext k; simp [z_add, hne]
      simp only [z_cel, z_rv, e3, e4, e5, e2]
  have h2 : z_zero σ i i = fun _ => 0 := by funext k; simp [z_zero]
  show g.1.map _ ++ [(a, ce)] = (g.1 ++ [i]).map _
  rw [List.map_append, List.map_congr_left h1]
  congr 1
  simp only [List.map_cons, List.map_nil, h2, hce]
  simp [z_add, va_up]
def z_na (own : String) (idx ci : Nat) : Prop := ∃ (C : String) (T : u_T) (N : Nat) (ty0 : Nat → FieldType), vwCl[ci]? = some (C, T, N) ∧ ci < 10 ∧ (z_isr ci).length = N ∧ (∀ w ∈ u_ws C T N, w ∈ lw_good) ∧ (∀ k, k < N → parseFieldDescriptor (T k).2.2.1 = some (ty0 k)) ∧ (∀ k, k < N → defaultValue (ty0 k) = if (z_isr ci)[k]? = some true then .null else .int 0) ∧ Cond.classLink own idx C ∈ lw_good ∧ Cond.instantiable C N ∈ lw_good ∧ Cond.initialized C ∈ lw_good
theorem z_new (X : z_cx p s m args meth c own cc nL ret nm D cy z0) {idx ci i : Nat} (F : z_na own idx ci) (hw : z_wf g) (hi : i ∉ g.1) (hi0 : i ≠ 0) (hce : cells + 1 ≤ R.cells) (hsl : slots + (z_isr ci).length ≤ R.slots) (d : decode cc pc = .ok (.new idx, 3)) (kk : ∀ a : Nat, z_V p l e R s m args below meth c nL D cy z0 (cells + 1) (slots + (z_isr ci).length) Q (pc + 3) (L) (.ref a :: st) (z_add g i a ci 0) (z_zero σ i)) : z_V p l e R s m args below meth c nL D cy z0 cells slots Q (pc) (L) (st) g σ := by
  intro H locs ls hP hD hS hL
  obtain ⟨hx, hb', hml, hown, hts, hN, hK, hz, hr, hnm, hlk⟩ := X
  obtain ⟨C, T, N, ty0, f1, f2, f3, f4, f5, f6, f7, f8, f9⟩ := F
  rw [f3] at hsl kk
  have hcell : ∀ a, z_cel cy (z_add g i a ci 0) i (fun _ => 0) = .inr (ci, (z_isr ci).map (fun b => if b then Value.null else .int 0)) := by
    intro a
    rw [z_cel_ob (show (z_add g i a ci 0).2.2.1 i = ci by simp [z_add, va_up]) f2]
    congr 2
    apply List.ext_getElem?
    intro n
    rw [List.getElem?_mapIdx, List.getElem?_map]
    cases (z_isr ci)[n]? with
    | none => rfl
    | some b => cases b <;> simp [z_rv, z_ro, z_add, va_rf]
  refine va_new (fs := (z_isr ci).map (fun b => if b then Value.null else .int 0)) hx hb' hts f4 ty0 f5 hown (hts _ f7) (hts _ f8) (hts _ f9) hK hP hD hS (fun q hq => Nat.le_trans hz hq) f1 (fun j hj => ?_) hce hsl d (fun a H1 h1 h2 h3 => ?_)
  · rw [f6 j hj]
    have hl : j < (z_isr ci).length := by rw [f3]; exact hj
    simp only [vp_V, List.getD, List.getElem?_map]
    rw [List.getElem?_eq_getElem hl]
    cases (z_isr ci)[j] <;> simp
  · rw [z_w_add (a := a) hw hi hi0 (hcell a)] at h1 h2
    exact kk a H1 locs ls h1 h2 h3 hL
theorem z_newaI (X : z_cx p s m args meth c own cc nL ret nm D cy z0) {x : Int32} {i N : Nat} (hac : Cond.arrayClass (newarray.typeOf .int) ∈ lw_good) (hw : z_wf g) (hi : i ∉ g.1) (hi0 : i ≠ 0) (hx0 : ¬ x < 0) (hxN : x.toNatClampNeg = N) (hbig : N ≤ 60000000) (hce : cells + 1 ≤ R.cells) (hsl : slots + N ≤ R.slots) (d : decode cc pc = .ok (.newarray .int, 2)) (kk : ∀ a : Nat, z_V p l e R s m args below meth c nL D cy z0 (cells + 1) (slots + N) Q (pc + 2) (L) (.ref a :: st) (z_add g i a (10 + 0) N) (z_zero σ i)) : z_V p l e R s m args below meth c nL D cy z0 cells slots Q (pc) (L) (.int x :: st) g σ := by
  intro H locs ls hP hD hS hL
  obtain ⟨hx, hb', hml, hown, hts, hN, hK, hz, hr, hnm, hlk⟩ := X
  refine va_newa (ty := .int) (a0 := (N, .inl (fun _ => 0))) hx hb' (hts _ hac) rfl hK hP hD hS (fun q hq => Nat.le_trans hz hq) (fun cA => rfl) hx0 hxN (by show N * _ ≤ _; simp [componentBytes]; omega) hce hsl d (fun q cA H1 hK1 h1 h2 h3 => ?_)
  have hcA : cA = cy 0 := by
    have e1 := (hK1.2 7 (cA, .int) rfl).2
    have e2 := (hK1.2 0 (cy 0, .int) rfl).2
    have e3 : s.vm.findClass ("[" ++ FieldType.toString .int) = some cA := e1
    have e4 : s.vm.findClass ("[" ++ FieldType.toString .int) = some (cy 0) := e2
    exact Option.some.inj (e3.symm.trans e4)
  subst hcA
  rw [z_w_add (a := q) (kd := 10 + 0) (n := N) hw hi hi0 ((z_cel_I (show (z_add g i q (10 + 0) N).2.2.1 i = 10 + 0 by simp [z_add, va_up]) (show (z_add g i q (10 + 0) N).2.2.2.1 i = N by simp [z_add, va_up])))] at h1 h2
  exact kk q H1 locs ls h1 h2 h3 hL
theorem z_newaZ (X : z_cx p s m args meth c own cc nL ret nm D cy z0) {x : Int32} {i N : Nat} (hac : Cond.arrayClass (newarray.typeOf .boolean) ∈ lw_good) (hw : z_wf g) (hi : i ∉ g.1) (hi0 : i ≠ 0) (hx0 : ¬ x < 0) (hxN : x.toNatClampNeg = N) (hbig : N ≤ 60000000) (hce : cells + 1 ≤ R.cells) (hsl : slots + N ≤ R.slots) (d : decode cc pc = .ok (.newarray .boolean, 2)) (kk : ∀ a : Nat, z_V p l e R s m args below meth c nL D cy z0 (cells + 1) (slots + N) Q (pc + 2) (L) (.ref a :: st) (z_add g i a (10 + 1) N) (z_zero σ i)) : z_V p l e R s m args below meth c nL D cy z0 cells slots Q (pc) (L) (.int x :: st) g σ := by
  intro H locs ls hP hD hS hL
  obtain ⟨hx, hb', hml, hown, hts, hN, hK, hz, hr, hnm, hlk⟩ := X
  refine va_newa (ty := .boolean) (a0 := (N, .inl (fun _ => 0))) hx hb' (hts _ hac) rfl hK hP hD hS (fun q hq => Nat.le_trans hz hq) (fun cA => rfl) hx0 hxN (by show N * _ ≤ _; simp [componentBytes]; omega) hce hsl d (fun q cA H1 hK1 h1 h2 h3 => ?_)
  have hcA : cA = cy 1 := by
    have e1 := (hK1.2 7 (cA, .boolean) rfl).2
    have e2 := (hK1.2 1 (cy 1, .boolean) rfl).2
    have e3 : s.vm.findClass ("[" ++ FieldType.toString .boolean) = some cA := e1
    have e4 : s.vm.findClass ("[" ++ FieldType.toString .boolean) = some (cy 1) := e2
    exact Option.some.inj (e3.symm.trans e4)
  subst hcA
  rw [z_w_add (a := q) (kd := 10 + 1) (n := N) hw hi hi0 ((z_cel_Z (show (z_add g i q (10 + 1) N).2.2.1 i = 10 + 1 by simp [z_add, va_up]) (show (z_add g i q (10 + 1) N).2.2.2.1 i = N by simp [z_add, va_up])))] at h1 h2
  exact kk q H1 locs ls h1 h2 h3 hL
theorem z_newaJ (X : z_cx p s m args meth c own cc nL ret nm D cy z0) {x : Int32} {i N : Nat} (hac : Cond.arrayClass (newarray.typeOf .long) ∈ lw_good) (hw : z_wf g) (hi : i ∉ g.1) (hi0 : i ≠ 0) (hx0 : ¬ x < 0) (hxN : x.toNatClampNeg = N) (hbig : N ≤ 60000000) (hce : cells + 1 ≤ R.cells) (hsl : slots + N ≤ R.slots) (d : decode cc pc = .ok (.newarray .long, 2)) (kk : ∀ a : Nat, z_V p l e R s m args below meth c nL D cy z0 (cells + 1) (slots + N) Q (pc + 2) (L) (.ref a :: st) (z_add g i a (10 + 2) N) (z_zero σ i)) : z_V p l e R s m args below meth c nL D cy z0 cells slots Q (pc) (L) (.int x :: st) g σ := by
  intro H locs ls hP hD hS hL
  obtain ⟨hx, hb', hml, hown, hts, hN, hK, hz, hr, hnm, hlk⟩ := X
  refine va_newa (ty := .long) (a0 := (N, .inr (.inl (fun _ => 0)))) hx hb' (hts _ hac) rfl hK hP hD hS (fun q hq => Nat.le_trans hz hq) (fun cA => rfl) hx0 hxN (by show N * _ ≤ _; simp [componentBytes]; omega) hce hsl d (fun q cA H1 hK1 h1 h2 h3 => ?_)
  have hcA : cA = cy 2 := by
    have e1 := (hK1.2 7 (cA, .long) rfl).2
    have e2 := (hK1.2 2 (cy 2, .long) rfl).2
    have e3 : s.vm.findClass ("[" ++ FieldType.toString .long) = some cA := e1
    have e4 : s.vm.findClass ("[" ++ FieldType.toString .long) = some (cy 2) := e2
    exact Option.some.inj (e3.symm.trans e4)
  subst hcA
  rw [z_w_add (a := q) (kd := 10 + 2) (n := N) hw hi hi0 ((z_cel_J (show (z_add g i q (10 + 2) N).2.2.1 i = 10 + 2 by simp [z_add, va_up]) (show (z_add g i q (10 + 2) N).2.2.2.1 i = N by simp [z_add, va_up])).trans (by rw [show (0 : Int32).toInt64 = 0 by decide]))] at h1 h2
  exact kk q H1 locs ls h1 h2 h3 hL
theorem z_newq (X : z_cx p s m args meth c own cc nL ret nm D cy z0) {x : Int32} {idx i N t : Nat} {C : String} (ht : 3 ≤ t ∧ t < 7) (htc : z_aty t = .object C) (hcl : Cond.classLink own idx C ∈ lw_good) (hov : Cond.arrayOver (.object C) ∈ lw_nest) (hw : z_wf g) (hi : i ∉ g.1) (hi0 : i ≠ 0) (hx0 : ¬ x < 0) (hxN : x.toNatClampNeg = N) (hbig : N ≤ 60000000) (hce : cells + 1 ≤ R.cells) (hsl : slots + N ≤ R.slots) (d : decode cc pc = .ok (.anewarray idx, 3)) (kk : ∀ a : Nat, z_V p l e R s m args below meth c nL D cy z0 (cells + 1) (slots + N) Q (pc + 3) (L) (.ref a :: st) (z_add g i a (10 + t) N) (z_zero σ i)) : z_V p l e R s m args below meth c nL D cy z0 cells slots Q (pc) (L) (.int x :: st) g σ := by
  intro H locs ls hP hD hS hL
  obtain ⟨hx, hb', hml, hown, hts, hN, hK, hz, hr, hnm, hlk⟩ := X
  refine va_newq hx hb' hown (hts _ hcl) (hN _ hov) hK hP hD hS (fun q hq => Nat.le_trans hz hq) hx0 hxN (by omega) hce hsl d (fun q cA H1 hK1 h1 h2 h3 => ?_)
  have hcA : cA = cy t := by
    have hty := z_tys_at (cy := cy) ht.2
    rw [htc] at hty
    obtain ⟨_, _, -, -, -, e1⟩ := (hK1.2 7 (cA, .object C) rfl).2
    obtain ⟨_, _, -, -, -, e2⟩ := (hK1.2 t (cy t, .object C) (by rw [List.getElem?_append_left (by exact ht.2)]; exact hty)).2
    exact Option.some.inj (e1.symm.trans e2)
  subst hcA
  have hce2 : z_cel cy (z_add g i q (10 + t) N) i (fun _ => 0) = .inl (cy t, N, .inr (.inr (.inr (.inr (fun _ => none))))) := by
    rw [z_cel_Q ht.1 (show (z_add g i q (10 + t) N).2.2.1 i = 10 + t by simp [z_add, va_up]) (show (z_add g i q (10 + t) N).2.2.2.1 i = N by simp [z_add, va_up])]
    simp [z_ro, z_add]
  rw [z_w_add (a := q) (kd := 10 + t) (n := N) hw hi hi0 hce2] at h1 h2
  exact kk q H1 locs ls h1 h2 h3 hL
end ZR
end
