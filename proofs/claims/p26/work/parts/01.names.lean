-- ===== PART A: goes FIRST, ahead of the names: the tables' words, and 'selects' of the private methods out of them =====
/-- a private method of a class that the tables say can be made, by its rows of tables_1 -/
def lw_okq (q : MethodName × Nat) : Prop := (q.1.cls ≠ "java/lang/invoke/MethodHandle" ∧ q.1.cls ≠ "java/lang/invoke/VarHandle") ∧ Cond.instantiable q.1.cls q.2 ∈ tables_1 ∧ Cond.privateMethod q.1 ∈ tables_1 ∧ Cond.instanceMethod q.1 ∈ tables_1
theorem lw_p0 : lw_okq (⟨"Codewordcable", "messageAt", "(I)LCodewordcable$Message;"⟩, 10) := ⟨⟨by decide +kernel, by decide +kernel⟩, List.mem_of_getElem? (i := 20) (by decide +kernel), List.mem_of_getElem? (i := 214) (by decide +kernel), List.mem_of_getElem? (i := 215) (by decide +kernel)⟩
theorem lw_p1 : lw_okq (⟨"java/lang/Throwable", "fillInStackTrace", "(I)Ljava/lang/Throwable;"⟩, 6) := ⟨⟨by decide +kernel, by decide +kernel⟩, List.mem_of_getElem? (i := 259) (by decide +kernel), List.mem_of_getElem? (i := 257) (by decide +kernel), List.mem_of_getElem? (i := 258) (by decide +kernel)⟩
theorem lw_p2 : lw_okq (⟨"Codewordcable$Book", "addFind", "(I)V"⟩, 7) := ⟨⟨by decide +kernel, by decide +kernel⟩, List.mem_of_getElem? (i := 28) (by decide +kernel), List.mem_of_getElem? (i := 372) (by decide +kernel), List.mem_of_getElem? (i := 373) (by decide +kernel)⟩
theorem lw_p3 : lw_okq (⟨"Codewordcable", "rulesAt", "(LCodewordcable$Office;)LCodewordcable$Rules;"⟩, 10) := ⟨⟨by decide +kernel, by decide +kernel⟩, List.mem_of_getElem? (i := 20) (by decide +kernel), List.mem_of_getElem? (i := 416) (by decide +kernel), List.mem_of_getElem? (i := 417) (by decide +kernel)⟩
theorem lw_p4 : lw_okq (⟨"Codewordcable$Packer", "plainCost", "(LCodewordcable$Draft;LCodewordcable$Rules;)I"⟩, 7) := ⟨⟨by decide +kernel, by decide +kernel⟩, List.mem_of_getElem? (i := 58) (by decide +kernel), List.mem_of_getElem? (i := 432) (by decide +kernel), List.mem_of_getElem? (i := 433) (by decide +kernel)⟩
theorem lw_p5 : lw_okq (⟨"Codewordcable$Packer", "findCodes", "(LCodewordcable$Draft;ILCodewordcable$Rules;)V"⟩, 7) := ⟨⟨by decide +kernel, by decide +kernel⟩, List.mem_of_getElem? (i := 58) (by decide +kernel), List.mem_of_getElem? (i := 452) (by decide +kernel), List.mem_of_getElem? (i := 453) (by decide +kernel)⟩
theorem lw_p6 : lw_okq (⟨"Codewordcable$Book", "standsAt", "(ILCodewordcable$Draft;II)Z"⟩, 7) := ⟨⟨by decide +kernel, by decide +kernel⟩, List.mem_of_getElem? (i := 28) (by decide +kernel), List.mem_of_getElem? (i := 463) (by decide +kernel), List.mem_of_getElem? (i := 464) (by decide +kernel)⟩
theorem lw_p7 : lw_okq (⟨"Codewordcable$Packer", "findLeast", "(LCodewordcable$Draft;LCodewordcable$Rules;)V"⟩, 7) := ⟨⟨by decide +kernel, by decide +kernel⟩, List.mem_of_getElem? (i := 58) (by decide +kernel), List.mem_of_getElem? (i := 473) (by decide +kernel), List.mem_of_getElem? (i := 474) (by decide +kernel)⟩
theorem lw_p8 : lw_okq (⟨"Codewordcable$Packer", "setLeast", "(III)V"⟩, 7) := ⟨⟨by decide +kernel, by decide +kernel⟩, List.mem_of_getElem? (i := 58) (by decide +kernel), List.mem_of_getElem? (i := 478) (by decide +kernel), List.mem_of_getElem? (i := 479) (by decide +kernel)⟩
theorem lw_p9 : lw_okq (⟨"Codewordcable$Packer", "leastFrom", "(II)I"⟩, 7) := ⟨⟨by decide +kernel, by decide +kernel⟩, List.mem_of_getElem? (i := 58) (by decide +kernel), List.mem_of_getElem? (i := 483) (by decide +kernel), List.mem_of_getElem? (i := 484) (by decide +kernel)⟩
theorem lw_p10 : lw_okq (⟨"Codewordcable$Packer", "codeFor", "(II)I"⟩, 7) := ⟨⟨by decide +kernel, by decide +kernel⟩, List.mem_of_getElem? (i := 58) (by decide +kernel), List.mem_of_getElem? (i := 487) (by decide +kernel), List.mem_of_getElem? (i := 488) (by decide +kernel)⟩
theorem lw_p11 : lw_okq (⟨"Codewordcable$Packer", "chooseCount", "(LCodewordcable$Draft;LCodewordcable$Rules;)V"⟩, 7) := ⟨⟨by decide +kernel, by decide +kernel⟩, List.mem_of_getElem? (i := 58) (by decide +kernel), List.mem_of_getElem? (i := 492) (by decide +kernel), List.mem_of_getElem? (i := 493) (by decide +kernel)⟩
theorem lw_p12 : lw_okq (⟨"Codewordcable$Packer", "cut", "(LCodewordcable$Draft;LCodewordcable$Rules;)V"⟩, 7) := ⟨⟨by decide +kernel, by decide +kernel⟩, List.mem_of_getElem? (i := 58) (by decide +kernel), List.mem_of_getElem? (i := 496) (by decide +kernel), List.mem_of_getElem? (i := 497) (by decide +kernel)⟩
theorem lw_p13 : lw_okq (⟨"Codewordcable$Packer", "longestCode", "(II)I"⟩, 7) := ⟨⟨by decide +kernel, by decide +kernel⟩, List.mem_of_getElem? (i := 58) (by decide +kernel), List.mem_of_getElem? (i := 500) (by decide +kernel), List.mem_of_getElem? (i := 501) (by decide +kernel)⟩
theorem lw_p14 : lw_okq (⟨"Codewordcable$Packer", "addWord", "(I)V"⟩, 7) := ⟨⟨by decide +kernel, by decide +kernel⟩, List.mem_of_getElem? (i := 58) (by decide +kernel), List.mem_of_getElem? (i := 504) (by decide +kernel), List.mem_of_getElem? (i := 505) (by decide +kernel)⟩
theorem lw_p15 : lw_okq (⟨"Codewordcable", "countAtCable", "(I)I"⟩, 10) := ⟨⟨by decide +kernel, by decide +kernel⟩, List.mem_of_getElem? (i := 20) (by decide +kernel), List.mem_of_getElem? (i := 670) (by decide +kernel), List.mem_of_getElem? (i := 671) (by decide +kernel)⟩
def lw_privs_1 : List (MethodName × Nat) := [(⟨"Codewordcable", "messageAt", "(I)LCodewordcable$Message;"⟩, 10), (⟨"java/lang/Throwable", "fillInStackTrace", "(I)Ljava/lang/Throwable;"⟩, 6), (⟨"Codewordcable$Book", "addFind", "(I)V"⟩, 7), (⟨"Codewordcable", "rulesAt", "(LCodewordcable$Office;)LCodewordcable$Rules;"⟩, 10), (⟨"Codewordcable$Packer", "plainCost", "(LCodewordcable$Draft;LCodewordcable$Rules;)I"⟩, 7), (⟨"Codewordcable$Packer", "findCodes", "(LCodewordcable$Draft;ILCodewordcable$Rules;)V"⟩, 7), (⟨"Codewordcable$Book", "standsAt", "(ILCodewordcable$Draft;II)Z"⟩, 7), (⟨"Codewordcable$Packer", "findLeast", "(LCodewordcable$Draft;LCodewordcable$Rules;)V"⟩, 7), (⟨"Codewordcable$Packer", "setLeast", "(III)V"⟩, 7), (⟨"Codewordcable$Packer", "leastFrom", "(II)I"⟩, 7), (⟨"Codewordcable$Packer", "codeFor", "(II)I"⟩, 7), (⟨"Codewordcable$Packer", "chooseCount", "(LCodewordcable$Draft;LCodewordcable$Rules;)V"⟩, 7), (⟨"Codewordcable$Packer", "cut", "(LCodewordcable$Draft;LCodewordcable$Rules;)V"⟩, 7), (⟨"Codewordcable$Packer", "longestCode", "(II)I"⟩, 7), (⟨"Codewordcable$Packer", "addWord", "(I)V"⟩, 7), (⟨"Codewordcable", "countAtCable", "(I)I"⟩, 10)]
theorem lw_r1 : ∀ q ∈ lw_privs_1, lw_okq q := List.forall_mem_cons.mpr ⟨lw_p0, List.forall_mem_cons.mpr ⟨lw_p1, List.forall_mem_cons.mpr ⟨lw_p2, List.forall_mem_cons.mpr ⟨lw_p3, List.forall_mem_cons.mpr ⟨lw_p4, List.forall_mem_cons.mpr ⟨lw_p5, List.forall_mem_cons.mpr ⟨lw_p6, List.forall_mem_cons.mpr ⟨lw_p7, List.forall_mem_cons.mpr ⟨lw_p8, List.forall_mem_cons.mpr ⟨lw_p9, List.forall_mem_cons.mpr ⟨lw_p10, List.forall_mem_cons.mpr ⟨lw_p11, List.forall_mem_cons.mpr ⟨lw_p12, List.forall_mem_cons.mpr ⟨lw_p13, List.forall_mem_cons.mpr ⟨lw_p14, List.forall_mem_cons.mpr ⟨lw_p15, fun _ h => absurd h List.not_mem_nil⟩⟩⟩⟩⟩⟩⟩⟩⟩⟩⟩⟩⟩⟩⟩⟩
theorem lw_p16 : lw_okq (⟨"Codewordcable$Net", "findCosts", "(I)V"⟩, 7) := ⟨⟨by decide +kernel, by decide +kernel⟩, List.mem_of_getElem? (i := 104) (by decide +kernel), List.mem_of_getElem? (i := 716) (by decide +kernel), List.mem_of_getElem? (i := 717) (by decide +kernel)⟩
theorem lw_p17 : lw_okq (⟨"Codewordcable$Net", "setCost", "(II)V"⟩, 7) := ⟨⟨by decide +kernel, by decide +kernel⟩, List.mem_of_getElem? (i := 104) (by decide +kernel), List.mem_of_getElem? (i := 722) (by decide +kernel), List.mem_of_getElem? (i := 723) (by decide +kernel)⟩
theorem lw_p18 : lw_okq (⟨"Codewordcable$Net", "lowerCost", "(ILCodewordcable$Cable;)V"⟩, 7) := ⟨⟨by decide +kernel, by decide +kernel⟩, List.mem_of_getElem? (i := 104) (by decide +kernel), List.mem_of_getElem? (i := 727) (by decide +kernel), List.mem_of_getElem? (i := 728) (by decide +kernel)⟩
theorem lw_p19 : lw_okq (⟨"Codewordcable$Net", "costFrom", "(I)I"⟩, 7) := ⟨⟨by decide +kernel, by decide +kernel⟩, List.mem_of_getElem? (i := 104) (by decide +kernel), List.mem_of_getElem? (i := 735) (by decide +kernel), List.mem_of_getElem? (i := 736) (by decide +kernel)⟩
theorem lw_p20 : lw_okq (⟨"Codewordcable$Net", "nextCable", "(I)I"⟩, 7) := ⟨⟨by decide +kernel, by decide +kernel⟩, List.mem_of_getElem? (i := 104) (by decide +kernel), List.mem_of_getElem? (i := 742) (by decide +kernel), List.mem_of_getElem? (i := 743) (by decide +kernel)⟩
theorem lw_p21 : lw_okq (⟨"Codewordcable$Message", "priceAt", "(I)I"⟩, 13) := ⟨⟨by decide +kernel, by decide +kernel⟩, List.mem_of_getElem? (i := 750) (by decide +kernel), List.mem_of_getElem? (i := 788) (by decide +kernel), List.mem_of_getElem? (i := 789) (by decide +kernel)⟩
theorem lw_p22 : lw_okq (⟨"Codewordcable", "settle", "(LCodewordcable$Message;)V"⟩, 10) := ⟨⟨by decide +kernel, by decide +kernel⟩, List.mem_of_getElem? (i := 20) (by decide +kernel), List.mem_of_getElem? (i := 845) (by decide +kernel), List.mem_of_getElem? (i := 846) (by decide +kernel)⟩
theorem lw_p23 : lw_okq (⟨"Codewordcable", "comeTo", "(LCodewordcable$Message;I)V"⟩, 10) := ⟨⟨by decide +kernel, by decide +kernel⟩, List.mem_of_getElem? (i := 20) (by decide +kernel), List.mem_of_getElem? (i := 850) (by decide +kernel), List.mem_of_getElem? (i := 851) (by decide +kernel)⟩
theorem lw_p24 : lw_okq (⟨"Codewordcable", "isAnyUnderway", "()Z"⟩, 10) := ⟨⟨by decide +kernel, by decide +kernel⟩, List.mem_of_getElem? (i := 20) (by decide +kernel), List.mem_of_getElem? (i := 874) (by decide +kernel), List.mem_of_getElem? (i := 875) (by decide +kernel)⟩
theorem lw_p25 : lw_okq (⟨"Codewordcable", "carryMinute", "()V"⟩, 10) := ⟨⟨by decide +kernel, by decide +kernel⟩, List.mem_of_getElem? (i := 20) (by decide +kernel), List.mem_of_getElem? (i := 878) (by decide +kernel), List.mem_of_getElem? (i := 879) (by decide +kernel)⟩
theorem lw_p26 : lw_okq (⟨"Codewordcable", "moveOn", "(LCodewordcable$Message;LCodewordcable$Cable;)V"⟩, 10) := ⟨⟨by decide +kernel, by decide +kernel⟩, List.mem_of_getElem? (i := 20) (by decide +kernel), List.mem_of_getElem? (i := 889) (by decide +kernel), List.mem_of_getElem? (i := 890) (by decide +kernel)⟩
theorem lw_p27 : lw_okq (⟨"Codewordcable", "shareIn", "(LCodewordcable$Message;I)I"⟩, 10) := ⟨⟨by decide +kernel, by decide +kernel⟩, List.mem_of_getElem? (i := 20) (by decide +kernel), List.mem_of_getElem? (i := 903) (by decide +kernel), List.mem_of_getElem? (i := 904) (by decide +kernel)⟩
def lw_privs_2 : List (MethodName × Nat) := [(⟨"Codewordcable$Net", "findCosts", "(I)V"⟩, 7), (⟨"Codewordcable$Net", "setCost", "(II)V"⟩, 7), (⟨"Codewordcable$Net", "lowerCost", "(ILCodewordcable$Cable;)V"⟩, 7), (⟨"Codewordcable$Net", "costFrom", "(I)I"⟩, 7), (⟨"Codewordcable$Net", "nextCable", "(I)I"⟩, 7), (⟨"Codewordcable$Message", "priceAt", "(I)I"⟩, 13), (⟨"Codewordcable", "settle", "(LCodewordcable$Message;)V"⟩, 10), (⟨"Codewordcable", "comeTo", "(LCodewordcable$Message;I)V"⟩, 10), (⟨"Codewordcable", "isAnyUnderway", "()Z"⟩, 10), (⟨"Codewordcable", "carryMinute", "()V"⟩, 10), (⟨"Codewordcable", "moveOn", "(LCodewordcable$Message;LCodewordcable$Cable;)V"⟩, 10), (⟨"Codewordcable", "shareIn", "(LCodewordcable$Message;I)I"⟩, 10)]
theorem lw_r2 : ∀ q ∈ lw_privs_2, lw_okq q := List.forall_mem_cons.mpr ⟨lw_p16, List.forall_mem_cons.mpr ⟨lw_p17, List.forall_mem_cons.mpr ⟨lw_p18, List.forall_mem_cons.mpr ⟨lw_p19, List.forall_mem_cons.mpr ⟨lw_p20, List.forall_mem_cons.mpr ⟨lw_p21, List.forall_mem_cons.mpr ⟨lw_p22, List.forall_mem_cons.mpr ⟨lw_p23, List.forall_mem_cons.mpr ⟨lw_p24, List.forall_mem_cons.mpr ⟨lw_p25, List.forall_mem_cons.mpr ⟨lw_p26, List.forall_mem_cons.mpr ⟨lw_p27, fun _ h => absurd h List.not_mem_nil⟩⟩⟩⟩⟩⟩⟩⟩⟩⟩⟩⟩
def lw_privs : List (MethodName × Nat) := lw_privs_1 ++ (lw_privs_2)
def lw_tbl : List Cond := k2_sels lw_privs ++ tables_1
theorem lw_privs_ok : ∀ q ∈ lw_privs, lw_okq q := by
  show ∀ q ∈ lw_privs_1 ++ (lw_privs_2), lw_okq q
  exact List.forall_mem_append.mpr ⟨lw_r1, lw_r2⟩
-- ===== end of PART A; then your names; then what follows =====
def RX0 : String := "Codewordcable$Book"
def TX0 : u_T := fun k => match k with
  | 0 => ("Codewordcable$Book", "letters", "[I", true)
  | 1 => ("Codewordcable$Book", "codes", "[I", true)
  | 2 => ("Codewordcable$Book", "phrases", "[I", true)
  | 3 => ("Codewordcable$Book", "finds", "[I", true)
  | 4 => ("Codewordcable$Book", "ideaCount", "I", false)
  | 5 => ("Codewordcable$Book", "entryCount", "I", false)
  | _ => ("Codewordcable$Book", "findCount", "I", false)
def tyX0 : Nat → FieldType := fun k => match k with
  | 0 => .array .int
  | 1 => .array .int
  | 2 => .array .int
  | 3 => .array .int
  | 4 => .int
  | 5 => .int
  | _ => .int
theorem nmX0 : ∀ a, a < 7 → ∀ b, b < 7 → a ≠ b → (TX0 a).2.1 ≠ (TX0 b).2.1 := by decide +kernel
theorem tyX0_ok : ∀ k, k < 7 → parseFieldDescriptor (TX0 k).2.2.1 = some (tyX0 k) := by decide +kernel
abbrev cX0_init : ByteArray := prog_2_method_1_code
def yX0_init : MethodName := ⟨RX0, "<init>", "()V"⟩
abbrev cX0_addIdea : ByteArray := prog_2_method_2_code
def yX0_addIdea : MethodName := ⟨RX0, "addIdea", "(I)I"⟩
abbrev cX0_hasIdea : ByteArray := prog_2_method_3_code
def yX0_hasIdea : MethodName := ⟨RX0, "hasIdea", "(I)Z"⟩
abbrev cX0_hasIdeaOrNone : ByteArray := prog_2_method_4_code
def yX0_hasIdeaOrNone : MethodName := ⟨RX0, "hasIdeaOrNone", "(I)Z"⟩
abbrev cX0_lettersOf : ByteArray := prog_2_method_5_code
def yX0_lettersOf : MethodName := ⟨RX0, "lettersOf", "(I)I"⟩
abbrev cX0_hasEntry : ByteArray := prog_2_method_6_code
def yX0_hasEntry : MethodName := ⟨RX0, "hasEntry", "(I)Z"⟩
abbrev cX0_codeOf : ByteArray := prog_2_method_7_code
def yX0_codeOf : MethodName := ⟨RX0, "codeOf", "(I)I"⟩
abbrev cX0_ideaIn : ByteArray := prog_2_method_8_code
def yX0_ideaIn : MethodName := ⟨RX0, "ideaIn", "(II)I"⟩
abbrev cX0_phraseLength : ByteArray := prog_2_method_9_code
def yX0_phraseLength : MethodName := ⟨RX0, "phraseLength", "(I)I"⟩
abbrev cX0_hasPhrase : ByteArray := prog_2_method_10_code
def yX0_hasPhrase : MethodName := ⟨RX0, "hasPhrase", "(IIII)Z"⟩
abbrev cX0_hasCodeNear : ByteArray := prog_2_method_11_code
def yX0_hasCodeNear : MethodName := ⟨RX0, "hasCodeNear", "(I)Z"⟩
abbrev cX0_addEntry : ByteArray := prog_2_method_12_code
def yX0_addEntry : MethodName := ⟨RX0, "addEntry", "(IIIII)I"⟩
abbrev cX0_entryFor : ByteArray := prog_2_method_13_code
def yX0_entryFor : MethodName := ⟨RX0, "entryFor", "(LCodewordcable$Draft;II)I"⟩
abbrev cX0_standsAt : ByteArray := prog_2_method_14_code
def yX0_standsAt : MethodName := ⟨RX0, "standsAt", "(ILCodewordcable$Draft;II)Z"⟩
abbrev cX0_shifted : ByteArray := prog_2_method_15_code
def yX0_shifted : MethodName := ⟨RX0, "shifted", "(II)I"⟩
abbrev cX0_search : ByteArray := prog_2_method_16_code
def yX0_search : MethodName := ⟨RX0, "search", "(I)V"⟩
abbrev cX0_addFind : ByteArray := prog_2_method_17_code
def yX0_addFind : MethodName := ⟨RX0, "addFind", "(I)V"⟩
abbrev cX0_findAt : ByteArray := prog_2_method_18_code
def yX0_findAt : MethodName := ⟨RX0, "findAt", "(I)I"⟩
abbrev cX0_onlyFind : ByteArray := prog_2_method_19_code
def yX0_onlyFind : MethodName := ⟨RX0, "onlyFind", "(I)I"⟩
def RX1 : String := "Codewordcable$Cable"
def TX1 : u_T := fun k => match k with
  | 0 => ("Codewordcable$Cable", "administration", "I", true)
  | 1 => ("Codewordcable$Cable", "other", "I", true)
  | 2 => ("Codewordcable$Cable", "rate", "I", true)
  | 3 => ("Codewordcable$Cable", "speed", "I", true)
  | 4 => ("Codewordcable$Cable", "isBroken", "Z", false)
  | _ => ("Codewordcable$Cable", "room", "I", false)
def tyX1 : Nat → FieldType := fun k => match k with
  | 0 => .int
  | 1 => .int
  | 2 => .int
  | 3 => .int
  | 4 => .boolean
  | _ => .int
theorem nmX1 : ∀ a, a < 6 → ∀ b, b < 6 → a ≠ b → (TX1 a).2.1 ≠ (TX1 b).2.1 := by decide +kernel
theorem tyX1_ok : ∀ k, k < 6 → parseFieldDescriptor (TX1 k).2.2.1 = some (tyX1 k) := by decide +kernel
abbrev cX1_init : ByteArray := prog_3_method_1_code
def yX1_init : MethodName := ⟨RX1, "<init>", "(IIII)V"⟩
abbrev cX1_touches : ByteArray := prog_3_method_2_code
def yX1_touches : MethodName := ⟨RX1, "touches", "(I)Z"⟩
abbrev cX1_otherEnd : ByteArray := prog_3_method_3_code
def yX1_otherEnd : MethodName := ⟨RX1, "otherEnd", "(I)I"⟩
def RX2 : String := "Codewordcable$Draft"
def TX2 : u_T := fun k => match k with
  | 0 => ("Codewordcable$Draft", "ideas", "[I", true)
  | _ => ("Codewordcable$Draft", "count", "I", false)
def tyX2 : Nat → FieldType := fun k => match k with
  | 0 => .array .int
  | _ => .int
theorem nmX2 : ∀ a, a < 2 → ∀ b, b < 2 → a ≠ b → (TX2 a).2.1 ≠ (TX2 b).2.1 := by decide +kernel
theorem tyX2_ok : ∀ k, k < 2 → parseFieldDescriptor (TX2 k).2.2.1 = some (tyX2 k) := by decide +kernel
abbrev cX2_init : ByteArray := prog_4_method_1_code
def yX2_init : MethodName := ⟨RX2, "<init>", "()V"⟩
abbrev cX2_add : ByteArray := prog_4_method_2_code
def yX2_add : MethodName := ⟨RX2, "add", "(I)Z"⟩
abbrev cX2_ideaAt : ByteArray := prog_4_method_3_code
def yX2_ideaAt : MethodName := ⟨RX2, "ideaAt", "(I)I"⟩
def RX3 : String := "Codewordcable$Message"
def TX3 : u_T := fun k => match k with
  | 0 => ("Codewordcable$Message", "from", "I", true)
  | 1 => ("Codewordcable$Message", "to", "I", true)
  | 2 => ("Codewordcable$Message", "kind", "I", true)
  | 3 => ("Codewordcable$Message", "paid", "I", true)
  | 4 => ("Codewordcable$Message", "price", "I", true)
  | 5 => ("Codewordcable$Message", "hasCode", "Z", true)
  | 6 => ("Codewordcable$Message", "sent", "[I", true)
  | 7 => ("Codewordcable$Message", "now", "[I", true)
  | 8 => ("Codewordcable$Message", "route", "[I", true)
  | 9 => ("Codewordcable$Message", "state", "I", false)
  | 10 => ("Codewordcable$Message", "at", "I", false)
  | 11 => ("Codewordcable$Message", "leg", "I", false)
  | _ => ("Codewordcable$Message", "left", "I", false)
def tyX3 : Nat → FieldType := fun k => match k with
  | 0 => .int
  | 1 => .int
  | 2 => .int
  | 3 => .int
  | 4 => .int
  | 5 => .boolean
  | 6 => .array .int
  | 7 => .array .int
  | 8 => .array .int
  | 9 => .int
  | 10 => .int
  | 11 => .int
  | _ => .int
theorem nmX3 : ∀ a, a < 13 → ∀ b, b < 13 → a ≠ b → (TX3 a).2.1 ≠ (TX3 b).2.1 := by decide +kernel
theorem tyX3_ok : ∀ k, k < 13 → parseFieldDescriptor (TX3 k).2.2.1 = some (tyX3 k) := by decide +kernel
abbrev cX3_init : ByteArray := prog_5_method_1_code
def yX3_init : MethodName := ⟨RX3, "<init>", "(IIILCodewordcable$Packer;LCodewordcable$Net;)V"⟩
abbrev cX3_priceAt : ByteArray := prog_5_method_2_code
def yX3_priceAt : MethodName := ⟨RX3, "priceAt", "(I)I"⟩
abbrev cX3_hasWord : ByteArray := prog_5_method_3_code
def yX3_hasWord : MethodName := ⟨RX3, "hasWord", "(I)Z"⟩
abbrev cX3_wordSent : ByteArray := prog_5_method_4_code
def yX3_wordSent : MethodName := ⟨RX3, "wordSent", "(I)I"⟩
abbrev cX3_wordNow : ByteArray := prog_5_method_5_code
def yX3_wordNow : MethodName := ⟨RX3, "wordNow", "(I)I"⟩
abbrev cX3_change : ByteArray := prog_5_method_6_code
def yX3_change : MethodName := ⟨RX3, "change", "(II)V"⟩
abbrev cX3_cableNow : ByteArray := prog_5_method_7_code
def yX3_cableNow : MethodName := ⟨RX3, "cableNow", "()I"⟩
def RX4 : String := "Codewordcable$Net"
def TX4 : u_T := fun k => match k with
  | 0 => ("Codewordcable$Net", "offices", "[LCodewordcable$Office;", true)
  | 1 => ("Codewordcable$Net", "cables", "[LCodewordcable$Cable;", true)
  | 2 => ("Codewordcable$Net", "costs", "[I", true)
  | 3 => ("Codewordcable$Net", "route", "[I", true)
  | 4 => ("Codewordcable$Net", "officeCount", "I", false)
  | 5 => ("Codewordcable$Net", "cableCount", "I", false)
  | _ => ("Codewordcable$Net", "routeLength", "I", false)
def tyX4 : Nat → FieldType := fun k => match k with
  | 0 => .array (.object "Codewordcable$Office")
  | 1 => .array (.object "Codewordcable$Cable")
  | 2 => .array .int
  | 3 => .array .int
  | 4 => .int
  | 5 => .int
  | _ => .int
theorem nmX4 : ∀ a, a < 7 → ∀ b, b < 7 → a ≠ b → (TX4 a).2.1 ≠ (TX4 b).2.1 := by decide +kernel
theorem tyX4_ok : ∀ k, k < 7 → parseFieldDescriptor (TX4 k).2.2.1 = some (tyX4 k) := by decide +kernel
abbrev cX4_init : ByteArray := prog_6_method_1_code
def yX4_init : MethodName := ⟨RX4, "<init>", "()V"⟩
abbrev cX4_addOffice : ByteArray := prog_6_method_2_code
def yX4_addOffice : MethodName := ⟨RX4, "addOffice", "()I"⟩
abbrev cX4_officeAt : ByteArray := prog_6_method_3_code
def yX4_officeAt : MethodName := ⟨RX4, "officeAt", "(I)LCodewordcable$Office;"⟩
abbrev cX4_addCable : ByteArray := prog_6_method_4_code
def yX4_addCable : MethodName := ⟨RX4, "addCable", "(IIII)I"⟩
abbrev cX4_cableAt : ByteArray := prog_6_method_5_code
def yX4_cableAt : MethodName := ⟨RX4, "cableAt", "(I)LCodewordcable$Cable;"⟩
abbrev cX4_startMinute : ByteArray := prog_6_method_6_code
def yX4_startMinute : MethodName := ⟨RX4, "startMinute", "()V"⟩
abbrev cX4_findRoute : ByteArray := prog_6_method_7_code
def yX4_findRoute : MethodName := ⟨RX4, "findRoute", "(II)Z"⟩
abbrev cX4_costOf : ByteArray := prog_6_method_8_code
def yX4_costOf : MethodName := ⟨RX4, "costOf", "(LCodewordcable$Cable;)I"⟩
abbrev cX4_findCosts : ByteArray := prog_6_method_9_code
def yX4_findCosts : MethodName := ⟨RX4, "findCosts", "(I)V"⟩
abbrev cX4_lowerCost : ByteArray := prog_6_method_10_code
def yX4_lowerCost : MethodName := ⟨RX4, "lowerCost", "(ILCodewordcable$Cable;)V"⟩
abbrev cX4_costFrom : ByteArray := prog_6_method_11_code
def yX4_costFrom : MethodName := ⟨RX4, "costFrom", "(I)I"⟩
abbrev cX4_setCost : ByteArray := prog_6_method_12_code
def yX4_setCost : MethodName := ⟨RX4, "setCost", "(II)V"⟩
abbrev cX4_nextCable : ByteArray := prog_6_method_13_code
def yX4_nextCable : MethodName := ⟨RX4, "nextCable", "(I)I"⟩
abbrev cX4_routeRow : ByteArray := prog_6_method_14_code
def yX4_routeRow : MethodName := ⟨RX4, "routeRow", "()[I"⟩
abbrev cX4_routeRate : ByteArray := prog_6_method_15_code
def yX4_routeRate : MethodName := ⟨RX4, "routeRate", "()I"⟩
def RX5 : String := "Codewordcable$Office"
def TX5 : u_T := fun k => match k with
  | 0 => ("Codewordcable$Office", "reserved", "[Z", true)
  | 1 => ("Codewordcable$Office", "key", "I", false)
  | 2 => ("Codewordcable$Office", "forbidsCode", "Z", false)
  | _ => ("Codewordcable$Office", "balance", "I", false)
def tyX5 : Nat → FieldType := fun k => match k with
  | 0 => .array .boolean
  | 1 => .int
  | 2 => .boolean
  | _ => .int
theorem nmX5 : ∀ a, a < 4 → ∀ b, b < 4 → a ≠ b → (TX5 a).2.1 ≠ (TX5 b).2.1 := by decide +kernel
theorem tyX5_ok : ∀ k, k < 4 → parseFieldDescriptor (TX5 k).2.2.1 = some (tyX5 k) := by decide +kernel
abbrev cX5_init : ByteArray := prog_7_method_1_code
def yX5_init : MethodName := ⟨RX5, "<init>", "()V"⟩
abbrev cX5_reserveRules : ByteArray := prog_7_method_2_code
def yX5_reserveRules : MethodName := ⟨RX5, "reserveRules", "(I)V"⟩
abbrev cX5_reserves : ByteArray := prog_7_method_3_code
def yX5_reserves : MethodName := ⟨RX5, "reserves", "(I)Z"⟩
def RX6 : String := "Codewordcable$Packer"
def TX6 : u_T := fun k => match k with
  | 0 => ("Codewordcable$Packer", "book", "LCodewordcable$Book;", true)
  | 1 => ("Codewordcable$Packer", "codes", "[I", true)
  | 2 => ("Codewordcable$Packer", "least", "[I", true)
  | 3 => ("Codewordcable$Packer", "words", "[I", true)
  | 4 => ("Codewordcable$Packer", "wordCount", "I", false)
  | 5 => ("Codewordcable$Packer", "codeCount", "I", false)
  | _ => ("Codewordcable$Packer", "paid", "I", false)
def tyX6 : Nat → FieldType := fun k => match k with
  | 0 => .object "Codewordcable$Book"
  | 1 => .array .int
  | 2 => .array .int
  | 3 => .array .int
  | 4 => .int
  | 5 => .int
  | _ => .int
theorem nmX6 : ∀ a, a < 7 → ∀ b, b < 7 → a ≠ b → (TX6 a).2.1 ≠ (TX6 b).2.1 := by decide +kernel
theorem tyX6_ok : ∀ k, k < 7 → parseFieldDescriptor (TX6 k).2.2.1 = some (tyX6 k) := by decide +kernel
abbrev cX6_init : ByteArray := prog_8_method_1_code
def yX6_init : MethodName := ⟨RX6, "<init>", "(LCodewordcable$Book;)V"⟩
abbrev cX6_wordRow : ByteArray := prog_8_method_2_code
def yX6_wordRow : MethodName := ⟨RX6, "wordRow", "()[I"⟩
abbrev cX6_fill : ByteArray := prog_8_method_3_code
def yX6_fill : MethodName := ⟨RX6, "fill", "(LCodewordcable$Draft;ILCodewordcable$Rules;Z)V"⟩
abbrev cX6_plainCost : ByteArray := prog_8_method_4_code
def yX6_plainCost : MethodName := ⟨RX6, "plainCost", "(LCodewordcable$Draft;LCodewordcable$Rules;)I"⟩
abbrev cX6_findCodes : ByteArray := prog_8_method_5_code
def yX6_findCodes : MethodName := ⟨RX6, "findCodes", "(LCodewordcable$Draft;ILCodewordcable$Rules;)V"⟩
abbrev cX6_codeFor : ByteArray := prog_8_method_6_code
def yX6_codeFor : MethodName := ⟨RX6, "codeFor", "(II)I"⟩
abbrev cX6_findLeast : ByteArray := prog_8_method_7_code
def yX6_findLeast : MethodName := ⟨RX6, "findLeast", "(LCodewordcable$Draft;LCodewordcable$Rules;)V"⟩
abbrev cX6_leastFrom : ByteArray := prog_8_method_8_code
def yX6_leastFrom : MethodName := ⟨RX6, "leastFrom", "(II)I"⟩
abbrev cX6_setLeast : ByteArray := prog_8_method_9_code
def yX6_setLeast : MethodName := ⟨RX6, "setLeast", "(III)V"⟩
abbrev cX6_chooseCount : ByteArray := prog_8_method_10_code
def yX6_chooseCount : MethodName := ⟨RX6, "chooseCount", "(LCodewordcable$Draft;LCodewordcable$Rules;)V"⟩
abbrev cX6_cut : ByteArray := prog_8_method_11_code
def yX6_cut : MethodName := ⟨RX6, "cut", "(LCodewordcable$Draft;LCodewordcable$Rules;)V"⟩
abbrev cX6_longestCode : ByteArray := prog_8_method_12_code
def yX6_longestCode : MethodName := ⟨RX6, "longestCode", "(II)I"⟩
abbrev cX6_addWord : ByteArray := prog_8_method_13_code
def yX6_addWord : MethodName := ⟨RX6, "addWord", "(I)V"⟩
def RX7 : String := "Codewordcable$Rules"
def TX7 : u_T := fun k => match k with
  | 0 => ("Codewordcable$Rules", "number", "I", true)
  | 1 => ("Codewordcable$Rules", "day", "I", true)
  | 2 => ("Codewordcable$Rules", "plain", "I", true)
  | 3 => ("Codewordcable$Rules", "code", "I", true)
  | _ => ("Codewordcable$Rules", "vowels", "I", true)
def tyX7 : Nat → FieldType := fun k => match k with
  | 0 => .int
  | 1 => .int
  | 2 => .int
  | 3 => .int
  | _ => .int
theorem nmX7 : ∀ a, a < 5 → ∀ b, b < 5 → a ≠ b → (TX7 a).2.1 ≠ (TX7 b).2.1 := by decide +kernel
theorem tyX7_ok : ∀ k, k < 5 → parseFieldDescriptor (TX7 k).2.2.1 = some (tyX7 k) := by decide +kernel
abbrev cX7_init : ByteArray := prog_9_method_1_code
def yX7_init : MethodName := ⟨RX7, "<init>", "(IIIII)V"⟩
def RX8 : String := "Codewordcable"
def TX8 : u_T := fun k => match k with
  | 0 => ("Codewordcable", "book", "LCodewordcable$Book;", true)
  | 1 => ("Codewordcable", "packer", "LCodewordcable$Packer;", true)
  | 2 => ("Codewordcable", "draft", "LCodewordcable$Draft;", true)
  | 3 => ("Codewordcable", "net", "LCodewordcable$Net;", true)
  | 4 => ("Codewordcable", "firstRules", "LCodewordcable$Rules;", true)
  | 5 => ("Codewordcable", "conferences", "[LCodewordcable$Rules;", true)
  | 6 => ("Codewordcable", "messages", "[LCodewordcable$Message;", true)
  | 7 => ("Codewordcable", "conferenceCount", "I", false)
  | 8 => ("Codewordcable", "messageCount", "I", false)
  | _ => ("Codewordcable", "minute", "I", false)
def tyX8 : Nat → FieldType := fun k => match k with
  | 0 => .object "Codewordcable$Book"
  | 1 => .object "Codewordcable$Packer"
  | 2 => .object "Codewordcable$Draft"
  | 3 => .object "Codewordcable$Net"
  | 4 => .object "Codewordcable$Rules"
  | 5 => .array (.object "Codewordcable$Rules")
  | 6 => .array (.object "Codewordcable$Message")
  | 7 => .int
  | 8 => .int
  | _ => .int
theorem nmX8 : ∀ a, a < 10 → ∀ b, b < 10 → a ≠ b → (TX8 a).2.1 ≠ (TX8 b).2.1 := by decide +kernel
theorem tyX8_ok : ∀ k, k < 10 → parseFieldDescriptor (TX8 k).2.2.1 = some (tyX8 k) := by decide +kernel
abbrev cX8_init : ByteArray := prog_1_method_1_code
def yX8_init : MethodName := ⟨RX8, "<init>", "()V"⟩
abbrev cX8_idea : ByteArray := prog_1_method_2_code
def yX8_idea : MethodName := ⟨RX8, "idea", "(I)I"⟩
abbrev cX8_entry : ByteArray := prog_1_method_3_code
def yX8_entry : MethodName := ⟨RX8, "entry", "(IIIII)I"⟩
abbrev cX8_candidates : ByteArray := prog_1_method_4_code
def yX8_candidates : MethodName := ⟨RX8, "candidates", "(I)I"⟩
abbrev cX8_candidate : ByteArray := prog_1_method_5_code
def yX8_candidate : MethodName := ⟨RX8, "candidate", "(II)I"⟩
abbrev cX8_office : ByteArray := prog_1_method_6_code
def yX8_office : MethodName := ⟨RX8, "office", "()I"⟩
abbrev cX8_cable : ByteArray := prog_1_method_7_code
def yX8_cable : MethodName := ⟨RX8, "cable", "(IIII)I"⟩
abbrev cX8_broken : ByteArray := prog_1_method_8_code
def yX8_broken : MethodName := ⟨RX8, "broken", "(IZ)I"⟩
abbrev cX8_forbid : ByteArray := prog_1_method_9_code
def yX8_forbid : MethodName := ⟨RX8, "forbid", "(IZ)Z"⟩
abbrev cX8_key : ByteArray := prog_1_method_10_code
def yX8_key : MethodName := ⟨RX8, "key", "(II)I"⟩
abbrev cX8_conference : ByteArray := prog_1_method_11_code
def yX8_conference : MethodName := ⟨RX8, "conference", "(IIII)I"⟩
abbrev cX8_reserve : ByteArray := prog_1_method_12_code
def yX8_reserve : MethodName := ⟨RX8, "reserve", "(II)I"⟩
abbrev cX8_draft : ByteArray := prog_1_method_13_code
def yX8_draft : MethodName := ⟨RX8, "draft", "(I)I"⟩
abbrev cX8_words : ByteArray := prog_1_method_14_code
def yX8_words : MethodName := ⟨RX8, "words", "(IZ)I"⟩
abbrev cX8_send : ByteArray := prog_1_method_15_code
def yX8_send : MethodName := ⟨RX8, "send", "(IIIZ)I"⟩
abbrev cX8_wrong : ByteArray := prog_1_method_16_code
def yX8_wrong : MethodName := ⟨RX8, "wrong", "(IIII)I"⟩
abbrev cX8_pass : ByteArray := prog_1_method_17_code
def yX8_pass : MethodName := ⟨RX8, "pass", "(I)I"⟩
abbrev cX8_rest : ByteArray := prog_1_method_18_code
def yX8_rest : MethodName := ⟨RX8, "rest", "(I)I"⟩
abbrev cX8_ofMessage : ByteArray := prog_1_method_19_code
def yX8_ofMessage : MethodName := ⟨RX8, "ofMessage", "(II)I"⟩
abbrev cX8_word : ByteArray := prog_1_method_20_code
def yX8_word : MethodName := ⟨RX8, "word", "(IIZ)I"⟩
abbrev cX8_read : ByteArray := prog_1_method_21_code
def yX8_read : MethodName := ⟨RX8, "read", "(II)I"⟩
abbrev cX8_claim : ByteArray := prog_1_method_22_code
def yX8_claim : MethodName := ⟨RX8, "claim", "(I)I"⟩
abbrev cX8_account : ByteArray := prog_1_method_23_code
def yX8_account : MethodName := ⟨RX8, "account", "(I)I"⟩
abbrev cX8_accountAnew : ByteArray := prog_1_method_24_code
def yX8_accountAnew : MethodName := ⟨RX8, "accountAnew", "(I)I"⟩
abbrev cX8_messageAt : ByteArray := prog_1_method_25_code
def yX8_messageAt : MethodName := ⟨RX8, "messageAt", "(I)LCodewordcable$Message;"⟩
abbrev cX8_countAtCable : ByteArray := prog_1_method_26_code
def yX8_countAtCable : MethodName := ⟨RX8, "countAtCable", "(I)I"⟩
abbrev cX8_rulesAt : ByteArray := prog_1_method_27_code
def yX8_rulesAt : MethodName := ⟨RX8, "rulesAt", "(LCodewordcable$Office;)LCodewordcable$Rules;"⟩
abbrev cX8_settle : ByteArray := prog_1_method_28_code
def yX8_settle : MethodName := ⟨RX8, "settle", "(LCodewordcable$Message;)V"⟩
abbrev cX8_shareIn : ByteArray := prog_1_method_29_code
def yX8_shareIn : MethodName := ⟨RX8, "shareIn", "(LCodewordcable$Message;I)I"⟩
abbrev cX8_isAnyUnderway : ByteArray := prog_1_method_30_code
def yX8_isAnyUnderway : MethodName := ⟨RX8, "isAnyUnderway", "()Z"⟩
abbrev cX8_carryMinute : ByteArray := prog_1_method_31_code
def yX8_carryMinute : MethodName := ⟨RX8, "carryMinute", "()V"⟩
abbrev cX8_carry : ByteArray := prog_1_method_32_code
def yX8_carry : MethodName := ⟨RX8, "carry", "(LCodewordcable$Message;LCodewordcable$Cable;)V"⟩
abbrev cX8_moveOn : ByteArray := prog_1_method_33_code
def yX8_moveOn : MethodName := ⟨RX8, "moveOn", "(LCodewordcable$Message;LCodewordcable$Cable;)V"⟩
abbrev cX8_comeTo : ByteArray := prog_1_method_34_code
def yX8_comeTo : MethodName := ⟨RX8, "comeTo", "(LCodewordcable$Message;I)V"⟩
abbrev cX8_isOutside : ByteArray := prog_1_method_35_code
def yX8_isOutside : MethodName := ⟨RX8, "isOutside", "(III)Z"⟩
abbrev cX8_roundedUp : ByteArray := prog_1_method_36_code
def yX8_roundedUp : MethodName := ⟨RX8, "roundedUp", "(II)I"⟩
abbrev cX8_isCode : ByteArray := prog_1_method_37_code
def yX8_isCode : MethodName := ⟨RX8, "isCode", "(I)Z"⟩
abbrev cX8_plainOf : ByteArray := prog_1_method_38_code
def yX8_plainOf : MethodName := ⟨RX8, "plainOf", "(I)I"⟩
abbrev cX8_ideaOfPlain : ByteArray := prog_1_method_39_code
def yX8_ideaOfPlain : MethodName := ⟨RX8, "ideaOfPlain", "(I)I"⟩
abbrev cX8_weightOf : ByteArray := prog_1_method_40_code
def yX8_weightOf : MethodName := ⟨RX8, "weightOf", "(I)I"⟩
abbrev cX8_letterOf : ByteArray := prog_1_method_41_code
def yX8_letterOf : MethodName := ⟨RX8, "letterOf", "(II)I"⟩
abbrev cX8_withLetter : ByteArray := prog_1_method_42_code
def yX8_withLetter : MethodName := ⟨RX8, "withLetter", "(III)I"⟩
abbrev cX8_vowelsIn : ByteArray := prog_1_method_43_code
def yX8_vowelsIn : MethodName := ⟨RX8, "vowelsIn", "(I)I"⟩
abbrev cX8_partsOf : ByteArray := prog_1_method_44_code
def yX8_partsOf : MethodName := ⟨RX8, "partsOf", "(II)I"⟩
abbrev cX8_firstPart : ByteArray := prog_1_method_45_code
def yX8_firstPart : MethodName := ⟨RX8, "firstPart", "(II)I"⟩
abbrev cX8_isTurned : ByteArray := prog_1_method_46_code
def yX8_isTurned : MethodName := ⟨RX8, "isTurned", "(II)Z"⟩
def RX9 : String := "CodewordcableModel"
def TX9 : u_T := fun k => match k with
  | _ => ("", "", "", false)
def tyX9 : Nat → FieldType := fun k => match k with
  | _ => .int
theorem nmX9 : ∀ a, a < 0 → ∀ b, b < 0 → a ≠ b → (TX9 a).2.1 ≠ (TX9 b).2.1 := by decide +kernel
theorem tyX9_ok : ∀ k, k < 0 → parseFieldDescriptor (TX9 k).2.2.1 = some (tyX9 k) := by decide +kernel
def RJx145de : String := "java/io/Serializable"
def RJx8e188 : String := "java/lang/Cloneable"
def RJ9 : String := "java/lang/Math"
def TJ9 : u_T := fun k => match k with
  | _ => ("", "", "", false)
def tyJ9 : Nat → FieldType := fun k => match k with
  | _ => .int
theorem nmJ9 : ∀ a, a < 0 → ∀ b, b < 0 → a ≠ b → (TJ9 a).2.1 ≠ (TJ9 b).2.1 := by decide +kernel
theorem tyJ9_ok : ∀ k, k < 0 → parseFieldDescriptor (TJ9 k).2.2.1 = some (tyJ9 k) := by decide +kernel
abbrev cJ9_floorMod_7cf53 : ByteArray := prog_17_method_50_code
def yJ9_floorMod_7cf53 : MethodName := ⟨RJ9, "floorMod", "(II)I"⟩
abbrev cJ9_max_7cf53 : ByteArray := prog_17_method_65_code
def yJ9_max_7cf53 : MethodName := ⟨RJ9, "max", "(II)I"⟩
abbrev cJ9_min_7cf53 : ByteArray := prog_17_method_69_code
def yJ9_min_7cf53 : MethodName := ⟨RJ9, "min", "(II)I"⟩
def RJ0 : String := "java/lang/String"
def TJ0 : u_T := fun k => match k with
  | _ => ("", "", "", false)
def tyJ0 : Nat → FieldType := fun k => match k with
  | _ => .int
theorem nmJ0 : ∀ a, a < 0 → ∀ b, b < 0 → a ≠ b → (TJ0 a).2.1 ≠ (TJ0 b).2.1 := by decide +kernel
theorem tyJ0_ok : ∀ k, k < 0 → parseFieldDescriptor (TJ0 k).2.2.1 = some (tyJ0 k) := by decide +kernel
def RJ10 : String := "java/lang/System"
def TJ10 : u_T := fun k => match k with
  | _ => ("", "", "", false)
def tyJ10 : Nat → FieldType := fun k => match k with
  | _ => .int
theorem nmJ10 : ∀ a, a < 0 → ∀ b, b < 0 → a ≠ b → (TJ10 a).2.1 ≠ (TJ10 b).2.1 := by decide +kernel
theorem tyJ10_ok : ∀ k, k < 0 → parseFieldDescriptor (TJ10 k).2.2.1 = some (tyJ10 k) := by decide +kernel
def RJ7 : String := "java/util/Arrays"
def TJ7 : u_T := fun k => match k with
  | _ => ("", "", "", false)
def tyJ7 : Nat → FieldType := fun k => match k with
  | _ => .int
theorem nmJ7 : ∀ a, a < 0 → ∀ b, b < 0 → a ≠ b → (TJ7 a).2.1 ≠ (TJ7 b).2.1 := by decide +kernel
theorem tyJ7_ok : ∀ k, k < 0 → parseFieldDescriptor (TJ7 k).2.2.1 = some (tyJ7 k) := by decide +kernel
abbrev cJ7_fill_53178 : ByteArray := prog_22_method_103_code
def yJ7_fill_53178 : MethodName := ⟨RJ7, "fill", "([II)V"⟩
abbrev cJ7_copyOf_59c91 : ByteArray := prog_22_method_123_code
def yJ7_copyOf_59c91 : MethodName := ⟨RJ7, "copyOf", "([II)[I"⟩
def RL : String := "CodewordcableLaw"
abbrev cL_cell : ByteArray := method_2_code
def yL_cell : MethodName := ⟨RL, "cell", "([II)I"⟩
abbrev cL_some : ByteArray := method_3_code
def yL_some : MethodName := ⟨RL, "some", "(II)I"⟩
abbrev cL_call : ByteArray := method_4_code
def yL_call : MethodName := ⟨RL, "call", "(LCodewordcable;IIIIII)I"⟩
abbrev cL_does : ByteArray := method_5_code
def yL_does : MethodName := ⟨RL, "does", "(LCodewordcable;IIIIII)I"⟩
abbrev cL_all : ByteArray := method_6_code
def yL_all : MethodName := ⟨RL, "all", "(LCodewordcable;[I)J"⟩
abbrev cL_both : ByteArray := method_7_code
def yL_both : MethodName := ⟨RL, "both", "(LCodewordcable;LCodewordcable;IIIIII)I"⟩
abbrev cL_parts : ByteArray := method_8_code
def yL_parts : MethodName := ⟨RL, "parts", "(II)I"⟩
abbrev cL_books : ByteArray := method_9_code
def yL_books : MethodName := ⟨RL, "books", "(LCodewordcable;LCodewordcable;[III)Z"⟩
abbrev cL_offices : ByteArray := method_10_code
def yL_offices : MethodName := ⟨RL, "offices", "(LCodewordcable;LCodewordcable;[III)Z"⟩
abbrev cL_sends : ByteArray := method_11_code
def yL_sends : MethodName := ⟨RL, "sends", "(LCodewordcable;LCodewordcable;[III)Z"⟩
abbrev cL_passes : ByteArray := method_12_code
def yL_passes : MethodName := ⟨RL, "passes", "(LCodewordcable;LCodewordcable;[III)Z"⟩
abbrev cL_sound : ByteArray := method_13_code
def yL_sound : MethodName := ⟨RL, "sound", "(LCodewordcable;[I)Z"⟩
abbrev cL_refused : ByteArray := method_14_code
def yL_refused : MethodName := ⟨RL, "refused", "(LCodewordcable;[I)Z"⟩
abbrev cL_law : ByteArray := code
def yL_law : MethodName := ⟨RL, "law", "([I)Z"⟩
abbrev vwCl : List vw_C := [(RX0, TX0, 7), (RX1, TX1, 6), (RX2, TX2, 2), (RX3, TX3, 13), (RX4, TX4, 7), (RX5, TX5, 4), (RX6, TX6, 7), (RX7, TX7, 5), (RX8, TX8, 10)]
