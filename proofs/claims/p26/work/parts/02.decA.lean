theorem dJ7_fill_53178_0 : decode cJ7_fill_53178 0 = .ok (.iconst 0, 1) := by decide +kernel
theorem dJ7_fill_53178_1 : decode cJ7_fill_53178 1 = .ok (.istore_n 2, 1) := by decide +kernel
theorem dJ7_fill_53178_2 : decode cJ7_fill_53178 2 = .ok (.aload_n 0, 1) := by decide +kernel
theorem dJ7_fill_53178_3 : decode cJ7_fill_53178 3 = .ok (.arraylength, 1) := by decide +kernel
theorem dJ7_fill_53178_4 : decode cJ7_fill_53178 4 = .ok (.istore_n 3, 1) := by decide +kernel
theorem dJ7_fill_53178_5 : decode cJ7_fill_53178 5 = .ok (.iload_n 2, 1) := by decide +kernel
theorem dJ7_fill_53178_6 : decode cJ7_fill_53178 6 = .ok (.iload_n 3, 1) := by decide +kernel
theorem dJ7_fill_53178_7 : decode cJ7_fill_53178 7 = .ok (.if_icmp .ge 13, 3) := by decide +kernel
theorem dJ7_fill_53178_10 : decode cJ7_fill_53178 10 = .ok (.aload_n 0, 1) := by decide +kernel
theorem dJ7_fill_53178_11 : decode cJ7_fill_53178 11 = .ok (.iload_n 2, 1) := by decide +kernel
theorem dJ7_fill_53178_12 : decode cJ7_fill_53178 12 = .ok (.iload_n 1, 1) := by decide +kernel
theorem dJ7_fill_53178_13 : decode cJ7_fill_53178 13 = .ok (.iastore, 1) := by decide +kernel
theorem dJ7_fill_53178_14 : decode cJ7_fill_53178 14 = .ok (.iinc 2 1, 3) := by decide +kernel
theorem dJ7_fill_53178_17 : decode cJ7_fill_53178 17 = .ok (.goto (-12), 3) := by decide +kernel
theorem dJ7_fill_53178_20 : decode cJ7_fill_53178 20 = .ok (.return_, 1) := by decide +kernel
theorem dJ7_copyOf_59c91_0 : decode cJ7_copyOf_59c91 0 = .ok (.iload_n 1, 1) := by decide +kernel
theorem dJ7_copyOf_59c91_1 : decode cJ7_copyOf_59c91 1 = .ok (.aload_n 0, 1) := by decide +kernel
theorem dJ7_copyOf_59c91_2 : decode cJ7_copyOf_59c91 2 = .ok (.arraylength, 1) := by decide +kernel
theorem dJ7_copyOf_59c91_3 : decode cJ7_copyOf_59c91 3 = .ok (.if_icmp .ne 11, 3) := by decide +kernel
theorem dJ7_copyOf_59c91_6 : decode cJ7_copyOf_59c91 6 = .ok (.aload_n 0, 1) := by decide +kernel
theorem dJ7_copyOf_59c91_7 : decode cJ7_copyOf_59c91 7 = .ok (.invokevirtual 316, 3) := by decide +kernel
theorem dJ7_copyOf_59c91_10 : decode cJ7_copyOf_59c91 10 = .ok (.checkcast 317, 3) := by decide +kernel
theorem dJ7_copyOf_59c91_13 : decode cJ7_copyOf_59c91 13 = .ok (.areturn, 1) := by decide +kernel
theorem dJ7_copyOf_59c91_14 : decode cJ7_copyOf_59c91 14 = .ok (.iload_n 1, 1) := by decide +kernel
theorem dJ7_copyOf_59c91_15 : decode cJ7_copyOf_59c91 15 = .ok (.newarray .int, 2) := by decide +kernel
theorem dJ7_copyOf_59c91_17 : decode cJ7_copyOf_59c91 17 = .ok (.astore_n 2, 1) := by decide +kernel
theorem dJ7_copyOf_59c91_18 : decode cJ7_copyOf_59c91 18 = .ok (.aload_n 0, 1) := by decide +kernel
theorem dJ7_copyOf_59c91_19 : decode cJ7_copyOf_59c91 19 = .ok (.iconst 0, 1) := by decide +kernel
theorem dJ7_copyOf_59c91_20 : decode cJ7_copyOf_59c91 20 = .ok (.aload_n 2, 1) := by decide +kernel
theorem dJ7_copyOf_59c91_21 : decode cJ7_copyOf_59c91 21 = .ok (.iconst 0, 1) := by decide +kernel
theorem dJ7_copyOf_59c91_22 : decode cJ7_copyOf_59c91 22 = .ok (.aload_n 0, 1) := by decide +kernel
theorem dJ7_copyOf_59c91_23 : decode cJ7_copyOf_59c91 23 = .ok (.arraylength, 1) := by decide +kernel
theorem dJ7_copyOf_59c91_24 : decode cJ7_copyOf_59c91 24 = .ok (.iload_n 1, 1) := by decide +kernel
theorem dJ7_copyOf_59c91_25 : decode cJ7_copyOf_59c91 25 = .ok (.invokestatic 304, 3) := by decide +kernel
theorem dJ7_copyOf_59c91_28 : decode cJ7_copyOf_59c91 28 = .ok (.invokestatic 150, 3) := by decide +kernel
theorem dJ7_copyOf_59c91_31 : decode cJ7_copyOf_59c91 31 = .ok (.aload_n 2, 1) := by decide +kernel
theorem dJ7_copyOf_59c91_32 : decode cJ7_copyOf_59c91 32 = .ok (.areturn, 1) := by decide +kernel
theorem dJ9_floorMod_7cf53_0 : decode cJ9_floorMod_7cf53 0 = .ok (.iload_n 0, 1) := by decide +kernel
theorem dJ9_floorMod_7cf53_1 : decode cJ9_floorMod_7cf53 1 = .ok (.iload_n 1, 1) := by decide +kernel
theorem dJ9_floorMod_7cf53_2 : decode cJ9_floorMod_7cf53 2 = .ok (.irem, 1) := by decide +kernel
theorem dJ9_floorMod_7cf53_3 : decode cJ9_floorMod_7cf53 3 = .ok (.istore_n 2, 1) := by decide +kernel
theorem dJ9_floorMod_7cf53_4 : decode cJ9_floorMod_7cf53 4 = .ok (.iload_n 0, 1) := by decide +kernel
theorem dJ9_floorMod_7cf53_5 : decode cJ9_floorMod_7cf53 5 = .ok (.iload_n 1, 1) := by decide +kernel
theorem dJ9_floorMod_7cf53_6 : decode cJ9_floorMod_7cf53 6 = .ok (.ixor, 1) := by decide +kernel
theorem dJ9_floorMod_7cf53_7 : decode cJ9_floorMod_7cf53 7 = .ok (.ifCond .ge 11, 3) := by decide +kernel
theorem dJ9_floorMod_7cf53_10 : decode cJ9_floorMod_7cf53 10 = .ok (.iload_n 2, 1) := by decide +kernel
theorem dJ9_floorMod_7cf53_11 : decode cJ9_floorMod_7cf53 11 = .ok (.ifCond .eq 7, 3) := by decide +kernel
theorem dJ9_floorMod_7cf53_14 : decode cJ9_floorMod_7cf53 14 = .ok (.iload_n 2, 1) := by decide +kernel
theorem dJ9_floorMod_7cf53_15 : decode cJ9_floorMod_7cf53 15 = .ok (.iload_n 1, 1) := by decide +kernel
theorem dJ9_floorMod_7cf53_16 : decode cJ9_floorMod_7cf53 16 = .ok (.iadd, 1) := by decide +kernel
theorem dJ9_floorMod_7cf53_17 : decode cJ9_floorMod_7cf53 17 = .ok (.ireturn, 1) := by decide +kernel
theorem dJ9_floorMod_7cf53_18 : decode cJ9_floorMod_7cf53 18 = .ok (.iload_n 2, 1) := by decide +kernel
theorem dJ9_floorMod_7cf53_19 : decode cJ9_floorMod_7cf53 19 = .ok (.ireturn, 1) := by decide +kernel
theorem dJ9_max_7cf53_0 : decode cJ9_max_7cf53 0 = .ok (.iload_n 0, 1) := by decide +kernel
theorem dJ9_max_7cf53_1 : decode cJ9_max_7cf53 1 = .ok (.iload_n 1, 1) := by decide +kernel
theorem dJ9_max_7cf53_2 : decode cJ9_max_7cf53 2 = .ok (.if_icmp .lt 7, 3) := by decide +kernel
theorem dJ9_max_7cf53_5 : decode cJ9_max_7cf53 5 = .ok (.iload_n 0, 1) := by decide +kernel
theorem dJ9_max_7cf53_6 : decode cJ9_max_7cf53 6 = .ok (.goto 4, 3) := by decide +kernel
theorem dJ9_max_7cf53_9 : decode cJ9_max_7cf53 9 = .ok (.iload_n 1, 1) := by decide +kernel
theorem dJ9_max_7cf53_10 : decode cJ9_max_7cf53 10 = .ok (.ireturn, 1) := by decide +kernel
theorem dJ9_min_7cf53_0 : decode cJ9_min_7cf53 0 = .ok (.iload_n 0, 1) := by decide +kernel
theorem dJ9_min_7cf53_1 : decode cJ9_min_7cf53 1 = .ok (.iload_n 1, 1) := by decide +kernel
theorem dJ9_min_7cf53_2 : decode cJ9_min_7cf53 2 = .ok (.if_icmp .gt 7, 3) := by decide +kernel
theorem dJ9_min_7cf53_5 : decode cJ9_min_7cf53 5 = .ok (.iload_n 0, 1) := by decide +kernel
theorem dJ9_min_7cf53_6 : decode cJ9_min_7cf53 6 = .ok (.goto 4, 3) := by decide +kernel
theorem dJ9_min_7cf53_9 : decode cJ9_min_7cf53 9 = .ok (.iload_n 1, 1) := by decide +kernel
theorem dJ9_min_7cf53_10 : decode cJ9_min_7cf53 10 = .ok (.ireturn, 1) := by decide +kernel
theorem dX0_init_0 : decode cX0_init 0 = .ok (.aload_n 0, 1) := by decide +kernel
theorem dX0_init_1 : decode cX0_init 1 = .ok (.invokespecial 3, 3) := by decide +kernel
theorem dX0_init_4 : decode cX0_init 4 = .ok (.aload_n 0, 1) := by decide +kernel
theorem dX0_init_5 : decode cX0_init 5 = .ok (.bipush 30, 2) := by decide +kernel
theorem dX0_init_7 : decode cX0_init 7 = .ok (.newarray .int, 2) := by decide +kernel
theorem dX0_init_9 : decode cX0_init 9 = .ok (.putfield 9, 3) := by decide +kernel
theorem dX0_init_12 : decode cX0_init 12 = .ok (.aload_n 0, 1) := by decide +kernel
theorem dX0_init_13 : decode cX0_init 13 = .ok (.bipush 40, 2) := by decide +kernel
theorem dX0_init_15 : decode cX0_init 15 = .ok (.newarray .int, 2) := by decide +kernel
theorem dX0_init_17 : decode cX0_init 17 = .ok (.putfield 15, 3) := by decide +kernel
theorem dX0_init_20 : decode cX0_init 20 = .ok (.aload_n 0, 1) := by decide +kernel
theorem dX0_init_21 : decode cX0_init 21 = .ok (.sipush 160, 3) := by decide +kernel
theorem dX0_init_24 : decode cX0_init 24 = .ok (.newarray .int, 2) := by decide +kernel
theorem dX0_init_26 : decode cX0_init 26 = .ok (.putfield 18, 3) := by decide +kernel
theorem dX0_init_29 : decode cX0_init 29 = .ok (.aload_n 0, 1) := by decide +kernel
theorem dX0_init_30 : decode cX0_init 30 = .ok (.bipush 40, 2) := by decide +kernel
theorem dX0_init_32 : decode cX0_init 32 = .ok (.newarray .int, 2) := by decide +kernel
theorem dX0_init_34 : decode cX0_init 34 = .ok (.putfield 21, 3) := by decide +kernel
theorem dX0_init_37 : decode cX0_init 37 = .ok (.aload_n 0, 1) := by decide +kernel
theorem dX0_init_38 : decode cX0_init 38 = .ok (.iconst 0, 1) := by decide +kernel
theorem dX0_init_39 : decode cX0_init 39 = .ok (.putfield 24, 3) := by decide +kernel
theorem dX0_init_42 : decode cX0_init 42 = .ok (.aload_n 0, 1) := by decide +kernel
theorem dX0_init_43 : decode cX0_init 43 = .ok (.iconst 0, 1) := by decide +kernel
theorem dX0_init_44 : decode cX0_init 44 = .ok (.putfield 28, 3) := by decide +kernel
theorem dX0_init_47 : decode cX0_init 47 = .ok (.aload_n 0, 1) := by decide +kernel
theorem dX0_init_48 : decode cX0_init 48 = .ok (.iconst 0, 1) := by decide +kernel
theorem dX0_init_49 : decode cX0_init 49 = .ok (.putfield 31, 3) := by decide +kernel
theorem dX0_init_52 : decode cX0_init 52 = .ok (.return_, 1) := by decide +kernel
theorem dX0_addIdea_0 : decode cX0_addIdea 0 = .ok (.aload_n 0, 1) := by decide +kernel
theorem dX0_addIdea_1 : decode cX0_addIdea 1 = .ok (.getfield 24, 3) := by decide +kernel
theorem dX0_addIdea_4 : decode cX0_addIdea 4 = .ok (.aload_n 0, 1) := by decide +kernel
theorem dX0_addIdea_5 : decode cX0_addIdea 5 = .ok (.getfield 9, 3) := by decide +kernel
theorem dX0_addIdea_8 : decode cX0_addIdea 8 = .ok (.arraylength, 1) := by decide +kernel
theorem dX0_addIdea_9 : decode cX0_addIdea 9 = .ok (.if_icmp .lt 5, 3) := by decide +kernel
theorem dX0_addIdea_12 : decode cX0_addIdea 12 = .ok (.iconst (-1), 1) := by decide +kernel
theorem dX0_addIdea_13 : decode cX0_addIdea 13 = .ok (.ireturn, 1) := by decide +kernel
theorem dX0_addIdea_14 : decode cX0_addIdea 14 = .ok (.aload_n 0, 1) := by decide +kernel
theorem dX0_addIdea_15 : decode cX0_addIdea 15 = .ok (.getfield 9, 3) := by decide +kernel
theorem dX0_addIdea_18 : decode cX0_addIdea 18 = .ok (.aload_n 0, 1) := by decide +kernel
theorem dX0_addIdea_19 : decode cX0_addIdea 19 = .ok (.getfield 24, 3) := by decide +kernel
theorem dX0_addIdea_22 : decode cX0_addIdea 22 = .ok (.iload_n 1, 1) := by decide +kernel
theorem dX0_addIdea_23 : decode cX0_addIdea 23 = .ok (.iastore, 1) := by decide +kernel
theorem dX0_addIdea_24 : decode cX0_addIdea 24 = .ok (.aload_n 0, 1) := by decide +kernel
theorem dX0_addIdea_25 : decode cX0_addIdea 25 = .ok (.dup, 1) := by decide +kernel
theorem dX0_addIdea_26 : decode cX0_addIdea 26 = .ok (.getfield 24, 3) := by decide +kernel
theorem dX0_addIdea_29 : decode cX0_addIdea 29 = .ok (.iconst 1, 1) := by decide +kernel
theorem dX0_addIdea_30 : decode cX0_addIdea 30 = .ok (.iadd, 1) := by decide +kernel
theorem dX0_addIdea_31 : decode cX0_addIdea 31 = .ok (.putfield 24, 3) := by decide +kernel
theorem dX0_addIdea_34 : decode cX0_addIdea 34 = .ok (.aload_n 0, 1) := by decide +kernel
theorem dX0_addIdea_35 : decode cX0_addIdea 35 = .ok (.getfield 24, 3) := by decide +kernel
theorem dX0_addIdea_38 : decode cX0_addIdea 38 = .ok (.iconst 1, 1) := by decide +kernel
theorem dX0_addIdea_39 : decode cX0_addIdea 39 = .ok (.isub, 1) := by decide +kernel
theorem dX0_addIdea_40 : decode cX0_addIdea 40 = .ok (.ireturn, 1) := by decide +kernel
theorem dX0_hasIdea_0 : decode cX0_hasIdea 0 = .ok (.iload_n 1, 1) := by decide +kernel
theorem dX0_hasIdea_1 : decode cX0_hasIdea 1 = .ok (.iconst 0, 1) := by decide +kernel
theorem dX0_hasIdea_2 : decode cX0_hasIdea 2 = .ok (.aload_n 0, 1) := by decide +kernel
theorem dX0_hasIdea_3 : decode cX0_hasIdea 3 = .ok (.getfield 24, 3) := by decide +kernel
theorem dX0_hasIdea_6 : decode cX0_hasIdea 6 = .ok (.iconst 1, 1) := by decide +kernel
theorem dX0_hasIdea_7 : decode cX0_hasIdea 7 = .ok (.isub, 1) := by decide +kernel
theorem dX0_hasIdea_8 : decode cX0_hasIdea 8 = .ok (.invokestatic 34, 3) := by decide +kernel
theorem dX0_hasIdea_11 : decode cX0_hasIdea 11 = .ok (.ifCond .ne 7, 3) := by decide +kernel
theorem dX0_hasIdea_14 : decode cX0_hasIdea 14 = .ok (.iconst 1, 1) := by decide +kernel
theorem dX0_hasIdea_15 : decode cX0_hasIdea 15 = .ok (.goto 4, 3) := by decide +kernel
theorem dX0_hasIdea_18 : decode cX0_hasIdea 18 = .ok (.iconst 0, 1) := by decide +kernel
theorem dX0_hasIdea_19 : decode cX0_hasIdea 19 = .ok (.ireturn, 1) := by decide +kernel
theorem dX0_hasIdeaOrNone_0 : decode cX0_hasIdeaOrNone 0 = .ok (.iload_n 1, 1) := by decide +kernel
theorem dX0_hasIdeaOrNone_1 : decode cX0_hasIdeaOrNone 1 = .ok (.iconst (-1), 1) := by decide +kernel
theorem dX0_hasIdeaOrNone_2 : decode cX0_hasIdeaOrNone 2 = .ok (.if_icmp .eq 11, 3) := by decide +kernel
theorem dX0_hasIdeaOrNone_5 : decode cX0_hasIdeaOrNone 5 = .ok (.aload_n 0, 1) := by decide +kernel
theorem dX0_hasIdeaOrNone_6 : decode cX0_hasIdeaOrNone 6 = .ok (.iload_n 1, 1) := by decide +kernel
theorem dX0_hasIdeaOrNone_7 : decode cX0_hasIdeaOrNone 7 = .ok (.invokevirtual 38, 3) := by decide +kernel
theorem dX0_hasIdeaOrNone_10 : decode cX0_hasIdeaOrNone 10 = .ok (.ifCond .eq 7, 3) := by decide +kernel
theorem dX0_hasIdeaOrNone_13 : decode cX0_hasIdeaOrNone 13 = .ok (.iconst 1, 1) := by decide +kernel
theorem dX0_hasIdeaOrNone_14 : decode cX0_hasIdeaOrNone 14 = .ok (.goto 4, 3) := by decide +kernel
theorem dX0_hasIdeaOrNone_17 : decode cX0_hasIdeaOrNone 17 = .ok (.iconst 0, 1) := by decide +kernel
theorem dX0_hasIdeaOrNone_18 : decode cX0_hasIdeaOrNone 18 = .ok (.ireturn, 1) := by decide +kernel
theorem dX0_lettersOf_0 : decode cX0_lettersOf 0 = .ok (.aload_n 0, 1) := by decide +kernel
theorem dX0_lettersOf_1 : decode cX0_lettersOf 1 = .ok (.iload_n 1, 1) := by decide +kernel
theorem dX0_lettersOf_2 : decode cX0_lettersOf 2 = .ok (.invokevirtual 38, 3) := by decide +kernel
theorem dX0_lettersOf_5 : decode cX0_lettersOf 5 = .ok (.ifCond .eq 21, 3) := by decide +kernel
theorem dX0_lettersOf_8 : decode cX0_lettersOf 8 = .ok (.iload_n 1, 1) := by decide +kernel
theorem dX0_lettersOf_9 : decode cX0_lettersOf 9 = .ok (.aload_n 0, 1) := by decide +kernel
theorem dX0_lettersOf_10 : decode cX0_lettersOf 10 = .ok (.getfield 9, 3) := by decide +kernel
theorem dX0_lettersOf_13 : decode cX0_lettersOf 13 = .ok (.arraylength, 1) := by decide +kernel
theorem dX0_lettersOf_14 : decode cX0_lettersOf 14 = .ok (.if_icmp .ge 12, 3) := by decide +kernel
theorem dX0_lettersOf_17 : decode cX0_lettersOf 17 = .ok (.aload_n 0, 1) := by decide +kernel
theorem dX0_lettersOf_18 : decode cX0_lettersOf 18 = .ok (.getfield 9, 3) := by decide +kernel
theorem dX0_lettersOf_21 : decode cX0_lettersOf 21 = .ok (.iload_n 1, 1) := by decide +kernel
theorem dX0_lettersOf_22 : decode cX0_lettersOf 22 = .ok (.iaload, 1) := by decide +kernel
theorem dX0_lettersOf_23 : decode cX0_lettersOf 23 = .ok (.goto 4, 3) := by decide +kernel
theorem dX0_lettersOf_26 : decode cX0_lettersOf 26 = .ok (.iconst 0, 1) := by decide +kernel
theorem dX0_lettersOf_27 : decode cX0_lettersOf 27 = .ok (.ireturn, 1) := by decide +kernel
theorem dX0_hasEntry_0 : decode cX0_hasEntry 0 = .ok (.iload_n 1, 1) := by decide +kernel
theorem dX0_hasEntry_1 : decode cX0_hasEntry 1 = .ok (.ifCond .lt 24, 3) := by decide +kernel
theorem dX0_hasEntry_4 : decode cX0_hasEntry 4 = .ok (.iload_n 1, 1) := by decide +kernel
theorem dX0_hasEntry_5 : decode cX0_hasEntry 5 = .ok (.aload_n 0, 1) := by decide +kernel
theorem dX0_hasEntry_6 : decode cX0_hasEntry 6 = .ok (.getfield 28, 3) := by decide +kernel
theorem dX0_hasEntry_9 : decode cX0_hasEntry 9 = .ok (.if_icmp .ge 16, 3) := by decide +kernel
theorem dX0_hasEntry_12 : decode cX0_hasEntry 12 = .ok (.iload_n 1, 1) := by decide +kernel
theorem dX0_hasEntry_13 : decode cX0_hasEntry 13 = .ok (.aload_n 0, 1) := by decide +kernel
theorem dX0_hasEntry_14 : decode cX0_hasEntry 14 = .ok (.getfield 15, 3) := by decide +kernel
theorem dX0_hasEntry_17 : decode cX0_hasEntry 17 = .ok (.arraylength, 1) := by decide +kernel
theorem dX0_hasEntry_18 : decode cX0_hasEntry 18 = .ok (.if_icmp .ge 7, 3) := by decide +kernel
theorem dX0_hasEntry_21 : decode cX0_hasEntry 21 = .ok (.iconst 1, 1) := by decide +kernel
theorem dX0_hasEntry_22 : decode cX0_hasEntry 22 = .ok (.goto 4, 3) := by decide +kernel
theorem dX0_hasEntry_25 : decode cX0_hasEntry 25 = .ok (.iconst 0, 1) := by decide +kernel
theorem dX0_hasEntry_26 : decode cX0_hasEntry 26 = .ok (.ireturn, 1) := by decide +kernel
theorem dX0_codeOf_0 : decode cX0_codeOf 0 = .ok (.aload_n 0, 1) := by decide +kernel
theorem dX0_codeOf_1 : decode cX0_codeOf 1 = .ok (.iload_n 1, 1) := by decide +kernel
theorem dX0_codeOf_2 : decode cX0_codeOf 2 = .ok (.invokevirtual 42, 3) := by decide +kernel
theorem dX0_codeOf_5 : decode cX0_codeOf 5 = .ok (.ifCond .eq 12, 3) := by decide +kernel
theorem dX0_codeOf_8 : decode cX0_codeOf 8 = .ok (.aload_n 0, 1) := by decide +kernel
theorem dX0_codeOf_9 : decode cX0_codeOf 9 = .ok (.getfield 15, 3) := by decide +kernel
theorem dX0_codeOf_12 : decode cX0_codeOf 12 = .ok (.iload_n 1, 1) := by decide +kernel
theorem dX0_codeOf_13 : decode cX0_codeOf 13 = .ok (.iaload, 1) := by decide +kernel
theorem dX0_codeOf_14 : decode cX0_codeOf 14 = .ok (.goto 4, 3) := by decide +kernel
theorem dX0_codeOf_17 : decode cX0_codeOf 17 = .ok (.iconst (-1), 1) := by decide +kernel
theorem dX0_codeOf_18 : decode cX0_codeOf 18 = .ok (.ireturn, 1) := by decide +kernel
theorem dX0_ideaIn_0 : decode cX0_ideaIn 0 = .ok (.iload_n 1, 1) := by decide +kernel
theorem dX0_ideaIn_1 : decode cX0_ideaIn 1 = .ok (.iconst 4, 1) := by decide +kernel
theorem dX0_ideaIn_2 : decode cX0_ideaIn 2 = .ok (.imul, 1) := by decide +kernel
theorem dX0_ideaIn_3 : decode cX0_ideaIn 3 = .ok (.iload_n 2, 1) := by decide +kernel
theorem dX0_ideaIn_4 : decode cX0_ideaIn 4 = .ok (.iadd, 1) := by decide +kernel
theorem dX0_ideaIn_5 : decode cX0_ideaIn 5 = .ok (.istore_n 3, 1) := by decide +kernel
theorem dX0_ideaIn_6 : decode cX0_ideaIn 6 = .ok (.aload_n 0, 1) := by decide +kernel
theorem dX0_ideaIn_7 : decode cX0_ideaIn 7 = .ok (.iload_n 1, 1) := by decide +kernel
theorem dX0_ideaIn_8 : decode cX0_ideaIn 8 = .ok (.invokevirtual 42, 3) := by decide +kernel
theorem dX0_ideaIn_11 : decode cX0_ideaIn 11 = .ok (.ifCond .eq 25, 3) := by decide +kernel
theorem dX0_ideaIn_14 : decode cX0_ideaIn 14 = .ok (.iload_n 2, 1) := by decide +kernel
theorem dX0_ideaIn_15 : decode cX0_ideaIn 15 = .ok (.iconst 0, 1) := by decide +kernel
theorem dX0_ideaIn_16 : decode cX0_ideaIn 16 = .ok (.iconst 3, 1) := by decide +kernel
theorem dX0_ideaIn_17 : decode cX0_ideaIn 17 = .ok (.invokestatic 34, 3) := by decide +kernel
theorem dX0_ideaIn_20 : decode cX0_ideaIn 20 = .ok (.ifCond .ne 16, 3) := by decide +kernel
theorem dX0_ideaIn_23 : decode cX0_ideaIn 23 = .ok (.iload_n 3, 1) := by decide +kernel
theorem dX0_ideaIn_24 : decode cX0_ideaIn 24 = .ok (.aload_n 0, 1) := by decide +kernel
theorem dX0_ideaIn_25 : decode cX0_ideaIn 25 = .ok (.getfield 18, 3) := by decide +kernel
theorem dX0_ideaIn_28 : decode cX0_ideaIn 28 = .ok (.arraylength, 1) := by decide +kernel
theorem dX0_ideaIn_29 : decode cX0_ideaIn 29 = .ok (.if_icmp .ge 7, 3) := by decide +kernel
theorem dX0_ideaIn_32 : decode cX0_ideaIn 32 = .ok (.iconst 1, 1) := by decide +kernel
theorem dX0_ideaIn_33 : decode cX0_ideaIn 33 = .ok (.goto 4, 3) := by decide +kernel
theorem dX0_ideaIn_36 : decode cX0_ideaIn 36 = .ok (.iconst 0, 1) := by decide +kernel
theorem dX0_ideaIn_37 : decode cX0_ideaIn 37 = .ok (.istore 4, 2) := by decide +kernel
theorem dX0_ideaIn_39 : decode cX0_ideaIn 39 = .ok (.iload 4, 2) := by decide +kernel
theorem dX0_ideaIn_41 : decode cX0_ideaIn 41 = .ok (.ifCond .eq 12, 3) := by decide +kernel
theorem dX0_ideaIn_44 : decode cX0_ideaIn 44 = .ok (.aload_n 0, 1) := by decide +kernel
theorem dX0_ideaIn_45 : decode cX0_ideaIn 45 = .ok (.getfield 18, 3) := by decide +kernel
theorem dX0_ideaIn_48 : decode cX0_ideaIn 48 = .ok (.iload_n 3, 1) := by decide +kernel
theorem dX0_ideaIn_49 : decode cX0_ideaIn 49 = .ok (.iaload, 1) := by decide +kernel
theorem dX0_ideaIn_50 : decode cX0_ideaIn 50 = .ok (.goto 4, 3) := by decide +kernel
theorem dX0_ideaIn_53 : decode cX0_ideaIn 53 = .ok (.iconst (-1), 1) := by decide +kernel
theorem dX0_ideaIn_54 : decode cX0_ideaIn 54 = .ok (.ireturn, 1) := by decide +kernel
theorem dX0_phraseLength_0 : decode cX0_phraseLength 0 = .ok (.iconst 0, 1) := by decide +kernel
theorem dX0_phraseLength_1 : decode cX0_phraseLength 1 = .ok (.istore_n 2, 1) := by decide +kernel
theorem dX0_phraseLength_2 : decode cX0_phraseLength 2 = .ok (.iload_n 2, 1) := by decide +kernel
theorem dX0_phraseLength_3 : decode cX0_phraseLength 3 = .ok (.iconst 4, 1) := by decide +kernel
theorem dX0_phraseLength_4 : decode cX0_phraseLength 4 = .ok (.if_icmp .ge 19, 3) := by decide +kernel
theorem dX0_phraseLength_7 : decode cX0_phraseLength 7 = .ok (.aload_n 0, 1) := by decide +kernel
theorem dX0_phraseLength_8 : decode cX0_phraseLength 8 = .ok (.iload_n 1, 1) := by decide +kernel
theorem dX0_phraseLength_9 : decode cX0_phraseLength 9 = .ok (.iload_n 2, 1) := by decide +kernel
theorem dX0_phraseLength_10 : decode cX0_phraseLength 10 = .ok (.invokevirtual 45, 3) := by decide +kernel
theorem dX0_phraseLength_13 : decode cX0_phraseLength 13 = .ok (.iconst (-1), 1) := by decide +kernel
theorem dX0_phraseLength_14 : decode cX0_phraseLength 14 = .ok (.if_icmp .eq 9, 3) := by decide +kernel
theorem dX0_phraseLength_17 : decode cX0_phraseLength 17 = .ok (.iinc 2 1, 3) := by decide +kernel
theorem dX0_phraseLength_20 : decode cX0_phraseLength 20 = .ok (.goto (-18), 3) := by decide +kernel
theorem dX0_phraseLength_23 : decode cX0_phraseLength 23 = .ok (.iload_n 2, 1) := by decide +kernel
theorem dX0_phraseLength_24 : decode cX0_phraseLength 24 = .ok (.ireturn, 1) := by decide +kernel
theorem dX0_hasPhrase_0 : decode cX0_hasPhrase 0 = .ok (.iconst 0, 1) := by decide +kernel
theorem dX0_hasPhrase_1 : decode cX0_hasPhrase 1 = .ok (.istore 5, 2) := by decide +kernel
theorem dX0_hasPhrase_3 : decode cX0_hasPhrase 3 = .ok (.iload 5, 2) := by decide +kernel
theorem dX0_hasPhrase_5 : decode cX0_hasPhrase 5 = .ok (.aload_n 0, 1) := by decide +kernel
theorem dX0_hasPhrase_6 : decode cX0_hasPhrase 6 = .ok (.getfield 28, 3) := by decide +kernel
theorem dX0_hasPhrase_9 : decode cX0_hasPhrase 9 = .ok (.if_icmp .ge 56, 3) := by decide +kernel
theorem dX0_hasPhrase_12 : decode cX0_hasPhrase 12 = .ok (.aload_n 0, 1) := by decide +kernel
theorem dX0_hasPhrase_13 : decode cX0_hasPhrase 13 = .ok (.iload 5, 2) := by decide +kernel
theorem dX0_hasPhrase_15 : decode cX0_hasPhrase 15 = .ok (.iconst 0, 1) := by decide +kernel
theorem dX0_hasPhrase_16 : decode cX0_hasPhrase 16 = .ok (.invokevirtual 45, 3) := by decide +kernel
theorem dX0_hasPhrase_19 : decode cX0_hasPhrase 19 = .ok (.iload_n 1, 1) := by decide +kernel
theorem dX0_hasPhrase_20 : decode cX0_hasPhrase 20 = .ok (.if_icmp .ne 39, 3) := by decide +kernel
theorem dX0_hasPhrase_23 : decode cX0_hasPhrase 23 = .ok (.aload_n 0, 1) := by decide +kernel
theorem dX0_hasPhrase_24 : decode cX0_hasPhrase 24 = .ok (.iload 5, 2) := by decide +kernel
theorem dX0_hasPhrase_26 : decode cX0_hasPhrase 26 = .ok (.iconst 1, 1) := by decide +kernel
theorem dX0_hasPhrase_27 : decode cX0_hasPhrase 27 = .ok (.invokevirtual 45, 3) := by decide +kernel
theorem dX0_hasPhrase_30 : decode cX0_hasPhrase 30 = .ok (.iload_n 2, 1) := by decide +kernel
theorem dX0_hasPhrase_31 : decode cX0_hasPhrase 31 = .ok (.if_icmp .ne 28, 3) := by decide +kernel
theorem dX0_hasPhrase_34 : decode cX0_hasPhrase 34 = .ok (.aload_n 0, 1) := by decide +kernel
theorem dX0_hasPhrase_35 : decode cX0_hasPhrase 35 = .ok (.iload 5, 2) := by decide +kernel
theorem dX0_hasPhrase_37 : decode cX0_hasPhrase 37 = .ok (.iconst 2, 1) := by decide +kernel
theorem dX0_hasPhrase_38 : decode cX0_hasPhrase 38 = .ok (.invokevirtual 45, 3) := by decide +kernel
theorem dX0_hasPhrase_41 : decode cX0_hasPhrase 41 = .ok (.iload_n 3, 1) := by decide +kernel
theorem dX0_hasPhrase_42 : decode cX0_hasPhrase 42 = .ok (.if_icmp .ne 17, 3) := by decide +kernel
theorem dX0_hasPhrase_45 : decode cX0_hasPhrase 45 = .ok (.aload_n 0, 1) := by decide +kernel
theorem dX0_hasPhrase_46 : decode cX0_hasPhrase 46 = .ok (.iload 5, 2) := by decide +kernel
theorem dX0_hasPhrase_48 : decode cX0_hasPhrase 48 = .ok (.iconst 3, 1) := by decide +kernel
theorem dX0_hasPhrase_49 : decode cX0_hasPhrase 49 = .ok (.invokevirtual 45, 3) := by decide +kernel
theorem dX0_hasPhrase_52 : decode cX0_hasPhrase 52 = .ok (.iload 4, 2) := by decide +kernel
theorem dX0_hasPhrase_54 : decode cX0_hasPhrase 54 = .ok (.if_icmp .ne 5, 3) := by decide +kernel
theorem dX0_hasPhrase_57 : decode cX0_hasPhrase 57 = .ok (.iconst 1, 1) := by decide +kernel
theorem dX0_hasPhrase_58 : decode cX0_hasPhrase 58 = .ok (.ireturn, 1) := by decide +kernel
theorem dX0_hasPhrase_59 : decode cX0_hasPhrase 59 = .ok (.iinc 5 1, 3) := by decide +kernel
theorem dX0_hasPhrase_62 : decode cX0_hasPhrase 62 = .ok (.goto (-59), 3) := by decide +kernel
theorem dX0_hasPhrase_65 : decode cX0_hasPhrase 65 = .ok (.iconst 0, 1) := by decide +kernel
theorem dX0_hasPhrase_66 : decode cX0_hasPhrase 66 = .ok (.ireturn, 1) := by decide +kernel
theorem dX0_hasCodeNear_0 : decode cX0_hasCodeNear 0 = .ok (.iconst 0, 1) := by decide +kernel
theorem dX0_hasCodeNear_1 : decode cX0_hasCodeNear 1 = .ok (.istore_n 2, 1) := by decide +kernel
theorem dX0_hasCodeNear_2 : decode cX0_hasCodeNear 2 = .ok (.iload_n 2, 1) := by decide +kernel
theorem dX0_hasCodeNear_3 : decode cX0_hasCodeNear 3 = .ok (.aload_n 0, 1) := by decide +kernel
theorem dX0_hasCodeNear_4 : decode cX0_hasCodeNear 4 = .ok (.getfield 28, 3) := by decide +kernel
theorem dX0_hasCodeNear_7 : decode cX0_hasCodeNear 7 = .ok (.if_icmp .ge 24, 3) := by decide +kernel
theorem dX0_hasCodeNear_10 : decode cX0_hasCodeNear 10 = .ok (.iload_n 1, 1) := by decide +kernel
theorem dX0_hasCodeNear_11 : decode cX0_hasCodeNear 11 = .ok (.aload_n 0, 1) := by decide +kernel
theorem dX0_hasCodeNear_12 : decode cX0_hasCodeNear 12 = .ok (.iload_n 2, 1) := by decide +kernel
theorem dX0_hasCodeNear_13 : decode cX0_hasCodeNear 13 = .ok (.invokevirtual 49, 3) := by decide +kernel
theorem dX0_hasCodeNear_16 : decode cX0_hasCodeNear 16 = .ok (.invokestatic 53, 3) := by decide +kernel
theorem dX0_hasCodeNear_19 : decode cX0_hasCodeNear 19 = .ok (.iconst 2, 1) := by decide +kernel
theorem dX0_hasCodeNear_20 : decode cX0_hasCodeNear 20 = .ok (.if_icmp .ge 5, 3) := by decide +kernel
theorem dX0_hasCodeNear_23 : decode cX0_hasCodeNear 23 = .ok (.iconst 1, 1) := by decide +kernel
theorem dX0_hasCodeNear_24 : decode cX0_hasCodeNear 24 = .ok (.ireturn, 1) := by decide +kernel
theorem dX0_hasCodeNear_25 : decode cX0_hasCodeNear 25 = .ok (.iinc 2 1, 3) := by decide +kernel
theorem dX0_hasCodeNear_28 : decode cX0_hasCodeNear 28 = .ok (.goto (-26), 3) := by decide +kernel
theorem dX0_hasCodeNear_31 : decode cX0_hasCodeNear 31 = .ok (.iconst 0, 1) := by decide +kernel
theorem dX0_hasCodeNear_32 : decode cX0_hasCodeNear 32 = .ok (.ireturn, 1) := by decide +kernel
theorem dX0_addEntry_0 : decode cX0_addEntry 0 = .ok (.aload_n 0, 1) := by decide +kernel
theorem dX0_addEntry_1 : decode cX0_addEntry 1 = .ok (.getfield 28, 3) := by decide +kernel
theorem dX0_addEntry_4 : decode cX0_addEntry 4 = .ok (.iconst 4, 1) := by decide +kernel
theorem dX0_addEntry_5 : decode cX0_addEntry 5 = .ok (.imul, 1) := by decide +kernel
theorem dX0_addEntry_6 : decode cX0_addEntry 6 = .ok (.istore 6, 2) := by decide +kernel
theorem dX0_addEntry_8 : decode cX0_addEntry 8 = .ok (.aload_n 0, 1) := by decide +kernel
theorem dX0_addEntry_9 : decode cX0_addEntry 9 = .ok (.getfield 28, 3) := by decide +kernel
theorem dX0_addEntry_12 : decode cX0_addEntry 12 = .ok (.aload_n 0, 1) := by decide +kernel
theorem dX0_addEntry_13 : decode cX0_addEntry 13 = .ok (.getfield 15, 3) := by decide +kernel
theorem dX0_addEntry_16 : decode cX0_addEntry 16 = .ok (.arraylength, 1) := by decide +kernel
theorem dX0_addEntry_17 : decode cX0_addEntry 17 = .ok (.if_icmp .ge 15, 3) := by decide +kernel
theorem dX0_addEntry_20 : decode cX0_addEntry 20 = .ok (.iload 6, 2) := by decide +kernel
theorem dX0_addEntry_22 : decode cX0_addEntry 22 = .ok (.iconst 3, 1) := by decide +kernel
theorem dX0_addEntry_23 : decode cX0_addEntry 23 = .ok (.iadd, 1) := by decide +kernel
theorem dX0_addEntry_24 : decode cX0_addEntry 24 = .ok (.aload_n 0, 1) := by decide +kernel
theorem dX0_addEntry_25 : decode cX0_addEntry 25 = .ok (.getfield 18, 3) := by decide +kernel
theorem dX0_addEntry_28 : decode cX0_addEntry 28 = .ok (.arraylength, 1) := by decide +kernel
theorem dX0_addEntry_29 : decode cX0_addEntry 29 = .ok (.if_icmp .lt 5, 3) := by decide +kernel
theorem dX0_addEntry_32 : decode cX0_addEntry 32 = .ok (.iconst (-1), 1) := by decide +kernel
theorem dX0_addEntry_33 : decode cX0_addEntry 33 = .ok (.ireturn, 1) := by decide +kernel
theorem dX0_addEntry_34 : decode cX0_addEntry 34 = .ok (.aload_n 0, 1) := by decide +kernel
theorem dX0_addEntry_35 : decode cX0_addEntry 35 = .ok (.getfield 15, 3) := by decide +kernel
theorem dX0_addEntry_38 : decode cX0_addEntry 38 = .ok (.aload_n 0, 1) := by decide +kernel
theorem dX0_addEntry_39 : decode cX0_addEntry 39 = .ok (.getfield 28, 3) := by decide +kernel
theorem dX0_addEntry_42 : decode cX0_addEntry 42 = .ok (.iload_n 1, 1) := by decide +kernel
theorem dX0_addEntry_43 : decode cX0_addEntry 43 = .ok (.iastore, 1) := by decide +kernel
theorem dX0_addEntry_44 : decode cX0_addEntry 44 = .ok (.aload_n 0, 1) := by decide +kernel
theorem dX0_addEntry_45 : decode cX0_addEntry 45 = .ok (.getfield 18, 3) := by decide +kernel
theorem dX0_addEntry_48 : decode cX0_addEntry 48 = .ok (.iload 6, 2) := by decide +kernel
theorem dX0_addEntry_50 : decode cX0_addEntry 50 = .ok (.iload_n 2, 1) := by decide +kernel
theorem dX0_addEntry_51 : decode cX0_addEntry 51 = .ok (.iastore, 1) := by decide +kernel
theorem dX0_addEntry_52 : decode cX0_addEntry 52 = .ok (.aload_n 0, 1) := by decide +kernel
theorem dX0_addEntry_53 : decode cX0_addEntry 53 = .ok (.getfield 18, 3) := by decide +kernel
theorem dX0_addEntry_56 : decode cX0_addEntry 56 = .ok (.iload 6, 2) := by decide +kernel
theorem dX0_addEntry_58 : decode cX0_addEntry 58 = .ok (.iconst 1, 1) := by decide +kernel
theorem dX0_addEntry_59 : decode cX0_addEntry 59 = .ok (.iadd, 1) := by decide +kernel
theorem dX0_addEntry_60 : decode cX0_addEntry 60 = .ok (.iload_n 3, 1) := by decide +kernel
theorem dX0_addEntry_61 : decode cX0_addEntry 61 = .ok (.iastore, 1) := by decide +kernel
theorem dX0_addEntry_62 : decode cX0_addEntry 62 = .ok (.aload_n 0, 1) := by decide +kernel
theorem dX0_addEntry_63 : decode cX0_addEntry 63 = .ok (.getfield 18, 3) := by decide +kernel
theorem dX0_addEntry_66 : decode cX0_addEntry 66 = .ok (.iload 6, 2) := by decide +kernel
theorem dX0_addEntry_68 : decode cX0_addEntry 68 = .ok (.iconst 2, 1) := by decide +kernel
theorem dX0_addEntry_69 : decode cX0_addEntry 69 = .ok (.iadd, 1) := by decide +kernel
theorem dX0_addEntry_70 : decode cX0_addEntry 70 = .ok (.iload 4, 2) := by decide +kernel
theorem dX0_addEntry_72 : decode cX0_addEntry 72 = .ok (.iastore, 1) := by decide +kernel
theorem dX0_addEntry_73 : decode cX0_addEntry 73 = .ok (.aload_n 0, 1) := by decide +kernel
theorem dX0_addEntry_74 : decode cX0_addEntry 74 = .ok (.getfield 18, 3) := by decide +kernel
theorem dX0_addEntry_77 : decode cX0_addEntry 77 = .ok (.iload 6, 2) := by decide +kernel
theorem dX0_addEntry_79 : decode cX0_addEntry 79 = .ok (.iconst 3, 1) := by decide +kernel
theorem dX0_addEntry_80 : decode cX0_addEntry 80 = .ok (.iadd, 1) := by decide +kernel
theorem dX0_addEntry_81 : decode cX0_addEntry 81 = .ok (.iload 5, 2) := by decide +kernel
theorem dX0_addEntry_83 : decode cX0_addEntry 83 = .ok (.iastore, 1) := by decide +kernel
theorem dX0_addEntry_84 : decode cX0_addEntry 84 = .ok (.aload_n 0, 1) := by decide +kernel
theorem dX0_addEntry_85 : decode cX0_addEntry 85 = .ok (.dup, 1) := by decide +kernel
theorem dX0_addEntry_86 : decode cX0_addEntry 86 = .ok (.getfield 28, 3) := by decide +kernel
theorem dX0_addEntry_89 : decode cX0_addEntry 89 = .ok (.iconst 1, 1) := by decide +kernel
theorem dX0_addEntry_90 : decode cX0_addEntry 90 = .ok (.iadd, 1) := by decide +kernel
theorem dX0_addEntry_91 : decode cX0_addEntry 91 = .ok (.putfield 28, 3) := by decide +kernel
theorem dX0_addEntry_94 : decode cX0_addEntry 94 = .ok (.aload_n 0, 1) := by decide +kernel
theorem dX0_addEntry_95 : decode cX0_addEntry 95 = .ok (.getfield 28, 3) := by decide +kernel
theorem dX0_addEntry_98 : decode cX0_addEntry 98 = .ok (.iconst 1, 1) := by decide +kernel
theorem dX0_addEntry_99 : decode cX0_addEntry 99 = .ok (.isub, 1) := by decide +kernel
theorem dX0_addEntry_100 : decode cX0_addEntry 100 = .ok (.ireturn, 1) := by decide +kernel
theorem dX0_entryFor_0 : decode cX0_entryFor 0 = .ok (.iconst 0, 1) := by decide +kernel
theorem dX0_entryFor_1 : decode cX0_entryFor 1 = .ok (.istore 4, 2) := by decide +kernel
theorem dX0_entryFor_3 : decode cX0_entryFor 3 = .ok (.iload 4, 2) := by decide +kernel
theorem dX0_entryFor_5 : decode cX0_entryFor 5 = .ok (.aload_n 0, 1) := by decide +kernel
theorem dX0_entryFor_6 : decode cX0_entryFor 6 = .ok (.getfield 28, 3) := by decide +kernel
theorem dX0_entryFor_9 : decode cX0_entryFor 9 = .ok (.if_icmp .ge 24, 3) := by decide +kernel
theorem dX0_entryFor_12 : decode cX0_entryFor 12 = .ok (.aload_n 0, 1) := by decide +kernel
theorem dX0_entryFor_13 : decode cX0_entryFor 13 = .ok (.iload 4, 2) := by decide +kernel
theorem dX0_entryFor_15 : decode cX0_entryFor 15 = .ok (.aload_n 1, 1) := by decide +kernel
theorem dX0_entryFor_16 : decode cX0_entryFor 16 = .ok (.iload_n 2, 1) := by decide +kernel
theorem dX0_entryFor_17 : decode cX0_entryFor 17 = .ok (.iload_n 3, 1) := by decide +kernel
theorem dX0_entryFor_18 : decode cX0_entryFor 18 = .ok (.invokevirtual 56, 3) := by decide +kernel
theorem dX0_entryFor_21 : decode cX0_entryFor 21 = .ok (.ifCond .eq 6, 3) := by decide +kernel
theorem dX0_entryFor_24 : decode cX0_entryFor 24 = .ok (.iload 4, 2) := by decide +kernel
theorem dX0_entryFor_26 : decode cX0_entryFor 26 = .ok (.ireturn, 1) := by decide +kernel
theorem dX0_entryFor_27 : decode cX0_entryFor 27 = .ok (.iinc 4 1, 3) := by decide +kernel
theorem dX0_entryFor_30 : decode cX0_entryFor 30 = .ok (.goto (-27), 3) := by decide +kernel
theorem dX0_entryFor_33 : decode cX0_entryFor 33 = .ok (.iconst (-1), 1) := by decide +kernel
theorem dX0_entryFor_34 : decode cX0_entryFor 34 = .ok (.ireturn, 1) := by decide +kernel
theorem dX0_standsAt_0 : decode cX0_standsAt 0 = .ok (.iconst 0, 1) := by decide +kernel
theorem dX0_standsAt_1 : decode cX0_standsAt 1 = .ok (.istore 5, 2) := by decide +kernel
theorem dX0_standsAt_3 : decode cX0_standsAt 3 = .ok (.iload 5, 2) := by decide +kernel
theorem dX0_standsAt_5 : decode cX0_standsAt 5 = .ok (.iload 4, 2) := by decide +kernel
theorem dX0_standsAt_7 : decode cX0_standsAt 7 = .ok (.if_icmp .ge 29, 3) := by decide +kernel
theorem dX0_standsAt_10 : decode cX0_standsAt 10 = .ok (.aload_n 0, 1) := by decide +kernel
theorem dX0_standsAt_11 : decode cX0_standsAt 11 = .ok (.iload_n 1, 1) := by decide +kernel
theorem dX0_standsAt_12 : decode cX0_standsAt 12 = .ok (.iload 5, 2) := by decide +kernel
theorem dX0_standsAt_14 : decode cX0_standsAt 14 = .ok (.invokevirtual 45, 3) := by decide +kernel
theorem dX0_standsAt_17 : decode cX0_standsAt 17 = .ok (.aload_n 2, 1) := by decide +kernel
theorem dX0_standsAt_18 : decode cX0_standsAt 18 = .ok (.iload_n 3, 1) := by decide +kernel
theorem dX0_standsAt_19 : decode cX0_standsAt 19 = .ok (.iload 5, 2) := by decide +kernel
theorem dX0_standsAt_21 : decode cX0_standsAt 21 = .ok (.iadd, 1) := by decide +kernel
theorem dX0_standsAt_22 : decode cX0_standsAt 22 = .ok (.invokevirtual 60, 3) := by decide +kernel
theorem dX0_standsAt_25 : decode cX0_standsAt 25 = .ok (.if_icmp .eq 5, 3) := by decide +kernel
theorem dX0_standsAt_28 : decode cX0_standsAt 28 = .ok (.iconst 0, 1) := by decide +kernel
theorem dX0_standsAt_29 : decode cX0_standsAt 29 = .ok (.ireturn, 1) := by decide +kernel
theorem dX0_standsAt_30 : decode cX0_standsAt 30 = .ok (.iinc 5 1, 3) := by decide +kernel
theorem dX0_standsAt_33 : decode cX0_standsAt 33 = .ok (.goto (-30), 3) := by decide +kernel
theorem dX0_standsAt_36 : decode cX0_standsAt 36 = .ok (.aload_n 0, 1) := by decide +kernel
theorem dX0_standsAt_37 : decode cX0_standsAt 37 = .ok (.iload_n 1, 1) := by decide +kernel
theorem dX0_standsAt_38 : decode cX0_standsAt 38 = .ok (.iload 4, 2) := by decide +kernel
theorem dX0_standsAt_40 : decode cX0_standsAt 40 = .ok (.invokevirtual 45, 3) := by decide +kernel
theorem dX0_standsAt_43 : decode cX0_standsAt 43 = .ok (.iconst (-1), 1) := by decide +kernel
theorem dX0_standsAt_44 : decode cX0_standsAt 44 = .ok (.if_icmp .ne 7, 3) := by decide +kernel
theorem dX0_standsAt_47 : decode cX0_standsAt 47 = .ok (.iconst 1, 1) := by decide +kernel
theorem dX0_standsAt_48 : decode cX0_standsAt 48 = .ok (.goto 4, 3) := by decide +kernel
theorem dX0_standsAt_51 : decode cX0_standsAt 51 = .ok (.iconst 0, 1) := by decide +kernel
theorem dX0_standsAt_52 : decode cX0_standsAt 52 = .ok (.ireturn, 1) := by decide +kernel
theorem dX0_shifted_0 : decode cX0_shifted 0 = .ok (.aload_n 0, 1) := by decide +kernel
theorem dX0_shifted_1 : decode cX0_shifted 1 = .ok (.getfield 28, 3) := by decide +kernel
theorem dX0_shifted_4 : decode cX0_shifted 4 = .ok (.ifCond .le 8, 3) := by decide +kernel
theorem dX0_shifted_7 : decode cX0_shifted 7 = .ok (.iload_n 1, 1) := by decide +kernel
theorem dX0_shifted_8 : decode cX0_shifted 8 = .ok (.iconst (-1), 1) := by decide +kernel
theorem dX0_shifted_9 : decode cX0_shifted 9 = .ok (.if_icmp .ne 7, 3) := by decide +kernel
theorem dX0_shifted_12 : decode cX0_shifted 12 = .ok (.iconst (-1), 1) := by decide +kernel
theorem dX0_shifted_13 : decode cX0_shifted 13 = .ok (.goto 13, 3) := by decide +kernel
theorem dX0_shifted_16 : decode cX0_shifted 16 = .ok (.iload_n 1, 1) := by decide +kernel
theorem dX0_shifted_17 : decode cX0_shifted 17 = .ok (.iload_n 2, 1) := by decide +kernel
theorem dX0_shifted_18 : decode cX0_shifted 18 = .ok (.iadd, 1) := by decide +kernel
theorem dX0_shifted_19 : decode cX0_shifted 19 = .ok (.aload_n 0, 1) := by decide +kernel
theorem dX0_shifted_20 : decode cX0_shifted 20 = .ok (.getfield 28, 3) := by decide +kernel
theorem dX0_shifted_23 : decode cX0_shifted 23 = .ok (.invokestatic 65, 3) := by decide +kernel
theorem dX0_shifted_26 : decode cX0_shifted 26 = .ok (.ireturn, 1) := by decide +kernel
theorem dX0_search_0 : decode cX0_search 0 = .ok (.aload_n 0, 1) := by decide +kernel
theorem dX0_search_1 : decode cX0_search 1 = .ok (.iconst 0, 1) := by decide +kernel
theorem dX0_search_2 : decode cX0_search 2 = .ok (.putfield 31, 3) := by decide +kernel
theorem dX0_search_5 : decode cX0_search 5 = .ok (.iconst 0, 1) := by decide +kernel
theorem dX0_search_6 : decode cX0_search 6 = .ok (.istore_n 2, 1) := by decide +kernel
theorem dX0_search_7 : decode cX0_search 7 = .ok (.iload_n 2, 1) := by decide +kernel
theorem dX0_search_8 : decode cX0_search 8 = .ok (.aload_n 0, 1) := by decide +kernel
theorem dX0_search_9 : decode cX0_search 9 = .ok (.getfield 28, 3) := by decide +kernel
theorem dX0_search_12 : decode cX0_search 12 = .ok (.if_icmp .ge 23, 3) := by decide +kernel
theorem dX0_search_15 : decode cX0_search 15 = .ok (.aload_n 0, 1) := by decide +kernel
theorem dX0_search_16 : decode cX0_search 16 = .ok (.iload_n 2, 1) := by decide +kernel
theorem dX0_search_17 : decode cX0_search 17 = .ok (.invokevirtual 49, 3) := by decide +kernel
theorem dX0_search_20 : decode cX0_search 20 = .ok (.iload_n 1, 1) := by decide +kernel
theorem dX0_search_21 : decode cX0_search 21 = .ok (.if_icmp .ne 8, 3) := by decide +kernel
theorem dX0_search_24 : decode cX0_search 24 = .ok (.aload_n 0, 1) := by decide +kernel
theorem dX0_search_25 : decode cX0_search 25 = .ok (.iload_n 2, 1) := by decide +kernel
theorem dX0_search_26 : decode cX0_search 26 = .ok (.invokevirtual 70, 3) := by decide +kernel
theorem dX0_search_29 : decode cX0_search 29 = .ok (.iinc 2 1, 3) := by decide +kernel
theorem dX0_search_32 : decode cX0_search 32 = .ok (.goto (-25), 3) := by decide +kernel
theorem dX0_search_35 : decode cX0_search 35 = .ok (.aload_n 0, 1) := by decide +kernel
theorem dX0_search_36 : decode cX0_search 36 = .ok (.getfield 31, 3) := by decide +kernel
theorem dX0_search_39 : decode cX0_search 39 = .ok (.ifCond .le 4, 3) := by decide +kernel
theorem dX0_search_42 : decode cX0_search 42 = .ok (.return_, 1) := by decide +kernel
theorem dX0_search_43 : decode cX0_search 43 = .ok (.iconst 0, 1) := by decide +kernel
theorem dX0_search_44 : decode cX0_search 44 = .ok (.istore_n 2, 1) := by decide +kernel
theorem dX0_search_45 : decode cX0_search 45 = .ok (.iload_n 2, 1) := by decide +kernel
theorem dX0_search_46 : decode cX0_search 46 = .ok (.aload_n 0, 1) := by decide +kernel
theorem dX0_search_47 : decode cX0_search 47 = .ok (.getfield 28, 3) := by decide +kernel
theorem dX0_search_50 : decode cX0_search 50 = .ok (.if_icmp .ge 39, 3) := by decide +kernel
theorem dX0_search_53 : decode cX0_search 53 = .ok (.iload_n 1, 1) := by decide +kernel
theorem dX0_search_54 : decode cX0_search 54 = .ok (.aload_n 0, 1) := by decide +kernel
theorem dX0_search_55 : decode cX0_search 55 = .ok (.iload_n 2, 1) := by decide +kernel
theorem dX0_search_56 : decode cX0_search 56 = .ok (.invokevirtual 49, 3) := by decide +kernel
theorem dX0_search_59 : decode cX0_search 59 = .ok (.invokestatic 53, 3) := by decide +kernel
theorem dX0_search_62 : decode cX0_search 62 = .ok (.iconst 1, 1) := by decide +kernel
theorem dX0_search_63 : decode cX0_search 63 = .ok (.if_icmp .eq 15, 3) := by decide +kernel
theorem dX0_search_66 : decode cX0_search 66 = .ok (.iload_n 1, 1) := by decide +kernel
theorem dX0_search_67 : decode cX0_search 67 = .ok (.aload_n 0, 1) := by decide +kernel
theorem dX0_search_68 : decode cX0_search 68 = .ok (.iload_n 2, 1) := by decide +kernel
theorem dX0_search_69 : decode cX0_search 69 = .ok (.invokevirtual 49, 3) := by decide +kernel
theorem dX0_search_72 : decode cX0_search 72 = .ok (.invokestatic 74, 3) := by decide +kernel
theorem dX0_search_75 : decode cX0_search 75 = .ok (.ifCond .eq 8, 3) := by decide +kernel
theorem dX0_search_78 : decode cX0_search 78 = .ok (.aload_n 0, 1) := by decide +kernel
theorem dX0_search_79 : decode cX0_search 79 = .ok (.iload_n 2, 1) := by decide +kernel
theorem dX0_search_80 : decode cX0_search 80 = .ok (.invokevirtual 70, 3) := by decide +kernel
theorem dX0_search_83 : decode cX0_search 83 = .ok (.iinc 2 1, 3) := by decide +kernel
theorem dX0_search_86 : decode cX0_search 86 = .ok (.goto (-41), 3) := by decide +kernel
theorem dX0_search_89 : decode cX0_search 89 = .ok (.return_, 1) := by decide +kernel
theorem dX0_addFind_0 : decode cX0_addFind 0 = .ok (.aload_n 0, 1) := by decide +kernel
theorem dX0_addFind_1 : decode cX0_addFind 1 = .ok (.getfield 31, 3) := by decide +kernel
theorem dX0_addFind_4 : decode cX0_addFind 4 = .ok (.aload_n 0, 1) := by decide +kernel
theorem dX0_addFind_5 : decode cX0_addFind 5 = .ok (.getfield 21, 3) := by decide +kernel
theorem dX0_addFind_8 : decode cX0_addFind 8 = .ok (.arraylength, 1) := by decide +kernel
theorem dX0_addFind_9 : decode cX0_addFind 9 = .ok (.if_icmp .ge 23, 3) := by decide +kernel
theorem dX0_addFind_12 : decode cX0_addFind 12 = .ok (.aload_n 0, 1) := by decide +kernel
theorem dX0_addFind_13 : decode cX0_addFind 13 = .ok (.getfield 21, 3) := by decide +kernel
theorem dX0_addFind_16 : decode cX0_addFind 16 = .ok (.aload_n 0, 1) := by decide +kernel
theorem dX0_addFind_17 : decode cX0_addFind 17 = .ok (.getfield 31, 3) := by decide +kernel
theorem dX0_addFind_20 : decode cX0_addFind 20 = .ok (.iload_n 1, 1) := by decide +kernel
theorem dX0_addFind_21 : decode cX0_addFind 21 = .ok (.iastore, 1) := by decide +kernel
theorem dX0_addFind_22 : decode cX0_addFind 22 = .ok (.aload_n 0, 1) := by decide +kernel
theorem dX0_addFind_23 : decode cX0_addFind 23 = .ok (.dup, 1) := by decide +kernel
theorem dX0_addFind_24 : decode cX0_addFind 24 = .ok (.getfield 31, 3) := by decide +kernel
theorem dX0_addFind_27 : decode cX0_addFind 27 = .ok (.iconst 1, 1) := by decide +kernel
theorem dX0_addFind_28 : decode cX0_addFind 28 = .ok (.iadd, 1) := by decide +kernel
theorem dX0_addFind_29 : decode cX0_addFind 29 = .ok (.putfield 31, 3) := by decide +kernel
theorem dX0_addFind_32 : decode cX0_addFind 32 = .ok (.return_, 1) := by decide +kernel
theorem dX0_findAt_0 : decode cX0_findAt 0 = .ok (.iload_n 1, 1) := by decide +kernel
theorem dX0_findAt_1 : decode cX0_findAt 1 = .ok (.iconst 0, 1) := by decide +kernel
theorem dX0_findAt_2 : decode cX0_findAt 2 = .ok (.aload_n 0, 1) := by decide +kernel
theorem dX0_findAt_3 : decode cX0_findAt 3 = .ok (.getfield 31, 3) := by decide +kernel
theorem dX0_findAt_6 : decode cX0_findAt 6 = .ok (.iconst 1, 1) := by decide +kernel
theorem dX0_findAt_7 : decode cX0_findAt 7 = .ok (.isub, 1) := by decide +kernel
theorem dX0_findAt_8 : decode cX0_findAt 8 = .ok (.invokestatic 34, 3) := by decide +kernel
theorem dX0_findAt_11 : decode cX0_findAt 11 = .ok (.ifCond .ne 12, 3) := by decide +kernel
theorem dX0_findAt_14 : decode cX0_findAt 14 = .ok (.iload_n 1, 1) := by decide +kernel
theorem dX0_findAt_15 : decode cX0_findAt 15 = .ok (.aload_n 0, 1) := by decide +kernel
theorem dX0_findAt_16 : decode cX0_findAt 16 = .ok (.getfield 21, 3) := by decide +kernel
theorem dX0_findAt_19 : decode cX0_findAt 19 = .ok (.arraylength, 1) := by decide +kernel
theorem dX0_findAt_20 : decode cX0_findAt 20 = .ok (.if_icmp .lt 7, 3) := by decide +kernel
theorem dX0_findAt_23 : decode cX0_findAt 23 = .ok (.iconst (-1), 1) := by decide +kernel
theorem dX0_findAt_24 : decode cX0_findAt 24 = .ok (.goto 9, 3) := by decide +kernel
theorem dX0_findAt_27 : decode cX0_findAt 27 = .ok (.aload_n 0, 1) := by decide +kernel
theorem dX0_findAt_28 : decode cX0_findAt 28 = .ok (.getfield 21, 3) := by decide +kernel
theorem dX0_findAt_31 : decode cX0_findAt 31 = .ok (.iload_n 1, 1) := by decide +kernel
theorem dX0_findAt_32 : decode cX0_findAt 32 = .ok (.iaload, 1) := by decide +kernel
theorem dX0_findAt_33 : decode cX0_findAt 33 = .ok (.ireturn, 1) := by decide +kernel
theorem dX0_onlyFind_0 : decode cX0_onlyFind 0 = .ok (.aload_n 0, 1) := by decide +kernel
theorem dX0_onlyFind_1 : decode cX0_onlyFind 1 = .ok (.iload_n 1, 1) := by decide +kernel
theorem dX0_onlyFind_2 : decode cX0_onlyFind 2 = .ok (.invokevirtual 78, 3) := by decide +kernel
theorem dX0_onlyFind_5 : decode cX0_onlyFind 5 = .ok (.aload_n 0, 1) := by decide +kernel
theorem dX0_onlyFind_6 : decode cX0_onlyFind 6 = .ok (.getfield 31, 3) := by decide +kernel
theorem dX0_onlyFind_9 : decode cX0_onlyFind 9 = .ok (.iconst 1, 1) := by decide +kernel
theorem dX0_onlyFind_10 : decode cX0_onlyFind 10 = .ok (.if_icmp .ne 11, 3) := by decide +kernel
theorem dX0_onlyFind_13 : decode cX0_onlyFind 13 = .ok (.aload_n 0, 1) := by decide +kernel
theorem dX0_onlyFind_14 : decode cX0_onlyFind 14 = .ok (.iconst 0, 1) := by decide +kernel
theorem dX0_onlyFind_15 : decode cX0_onlyFind 15 = .ok (.invokevirtual 81, 3) := by decide +kernel
theorem dX0_onlyFind_18 : decode cX0_onlyFind 18 = .ok (.goto 4, 3) := by decide +kernel
theorem dX0_onlyFind_21 : decode cX0_onlyFind 21 = .ok (.iconst (-1), 1) := by decide +kernel
theorem dX0_onlyFind_22 : decode cX0_onlyFind 22 = .ok (.ireturn, 1) := by decide +kernel
theorem dX1_init_0 : decode cX1_init 0 = .ok (.aload_n 0, 1) := by decide +kernel
theorem dX1_init_1 : decode cX1_init 1 = .ok (.invokespecial 1, 3) := by decide +kernel
theorem dX1_init_4 : decode cX1_init 4 = .ok (.aload_n 0, 1) := by decide +kernel
theorem dX1_init_5 : decode cX1_init 5 = .ok (.iload_n 1, 1) := by decide +kernel
theorem dX1_init_6 : decode cX1_init 6 = .ok (.putfield 7, 3) := by decide +kernel
theorem dX1_init_9 : decode cX1_init 9 = .ok (.aload_n 0, 1) := by decide +kernel
theorem dX1_init_10 : decode cX1_init 10 = .ok (.iload_n 2, 1) := by decide +kernel
theorem dX1_init_11 : decode cX1_init 11 = .ok (.putfield 13, 3) := by decide +kernel
theorem dX1_init_14 : decode cX1_init 14 = .ok (.aload_n 0, 1) := by decide +kernel
theorem dX1_init_15 : decode cX1_init 15 = .ok (.iload_n 3, 1) := by decide +kernel
theorem dX1_init_16 : decode cX1_init 16 = .ok (.putfield 16, 3) := by decide +kernel
theorem dX1_init_19 : decode cX1_init 19 = .ok (.aload_n 0, 1) := by decide +kernel
theorem dX1_init_20 : decode cX1_init 20 = .ok (.iload 4, 2) := by decide +kernel
theorem dX1_init_22 : decode cX1_init 22 = .ok (.putfield 19, 3) := by decide +kernel
theorem dX1_init_25 : decode cX1_init 25 = .ok (.aload_n 0, 1) := by decide +kernel
theorem dX1_init_26 : decode cX1_init 26 = .ok (.iconst 0, 1) := by decide +kernel
theorem dX1_init_27 : decode cX1_init 27 = .ok (.putfield 22, 3) := by decide +kernel
theorem dX1_init_30 : decode cX1_init 30 = .ok (.aload_n 0, 1) := by decide +kernel
theorem dX1_init_31 : decode cX1_init 31 = .ok (.iconst 0, 1) := by decide +kernel
theorem dX1_init_32 : decode cX1_init 32 = .ok (.putfield 26, 3) := by decide +kernel
theorem dX1_init_35 : decode cX1_init 35 = .ok (.return_, 1) := by decide +kernel
theorem dX1_touches_0 : decode cX1_touches 0 = .ok (.iload_n 1, 1) := by decide +kernel
theorem dX1_touches_1 : decode cX1_touches 1 = .ok (.aload_n 0, 1) := by decide +kernel
theorem dX1_touches_2 : decode cX1_touches 2 = .ok (.getfield 7, 3) := by decide +kernel
theorem dX1_touches_5 : decode cX1_touches 5 = .ok (.if_icmp .eq 11, 3) := by decide +kernel
theorem dX1_touches_8 : decode cX1_touches 8 = .ok (.iload_n 1, 1) := by decide +kernel
theorem dX1_touches_9 : decode cX1_touches 9 = .ok (.aload_n 0, 1) := by decide +kernel
theorem dX1_touches_10 : decode cX1_touches 10 = .ok (.getfield 13, 3) := by decide +kernel
theorem dX1_touches_13 : decode cX1_touches 13 = .ok (.if_icmp .ne 7, 3) := by decide +kernel
theorem dX1_touches_16 : decode cX1_touches 16 = .ok (.iconst 1, 1) := by decide +kernel
theorem dX1_touches_17 : decode cX1_touches 17 = .ok (.goto 4, 3) := by decide +kernel
theorem dX1_touches_20 : decode cX1_touches 20 = .ok (.iconst 0, 1) := by decide +kernel
theorem dX1_touches_21 : decode cX1_touches 21 = .ok (.ireturn, 1) := by decide +kernel
theorem dX1_otherEnd_0 : decode cX1_otherEnd 0 = .ok (.iload_n 1, 1) := by decide +kernel
theorem dX1_otherEnd_1 : decode cX1_otherEnd 1 = .ok (.aload_n 0, 1) := by decide +kernel
theorem dX1_otherEnd_2 : decode cX1_otherEnd 2 = .ok (.getfield 7, 3) := by decide +kernel
theorem dX1_otherEnd_5 : decode cX1_otherEnd 5 = .ok (.if_icmp .ne 10, 3) := by decide +kernel
theorem dX1_otherEnd_8 : decode cX1_otherEnd 8 = .ok (.aload_n 0, 1) := by decide +kernel
theorem dX1_otherEnd_9 : decode cX1_otherEnd 9 = .ok (.getfield 13, 3) := by decide +kernel
theorem dX1_otherEnd_12 : decode cX1_otherEnd 12 = .ok (.goto 7, 3) := by decide +kernel
theorem dX1_otherEnd_15 : decode cX1_otherEnd 15 = .ok (.aload_n 0, 1) := by decide +kernel
theorem dX1_otherEnd_16 : decode cX1_otherEnd 16 = .ok (.getfield 7, 3) := by decide +kernel
theorem dX1_otherEnd_19 : decode cX1_otherEnd 19 = .ok (.ireturn, 1) := by decide +kernel
theorem dX2_init_0 : decode cX2_init 0 = .ok (.aload_n 0, 1) := by decide +kernel
theorem dX2_init_1 : decode cX2_init 1 = .ok (.invokespecial 3, 3) := by decide +kernel
theorem dX2_init_4 : decode cX2_init 4 = .ok (.aload_n 0, 1) := by decide +kernel
theorem dX2_init_5 : decode cX2_init 5 = .ok (.bipush 24, 2) := by decide +kernel
theorem dX2_init_7 : decode cX2_init 7 = .ok (.newarray .int, 2) := by decide +kernel
theorem dX2_init_9 : decode cX2_init 9 = .ok (.putfield 9, 3) := by decide +kernel
theorem dX2_init_12 : decode cX2_init 12 = .ok (.aload_n 0, 1) := by decide +kernel
theorem dX2_init_13 : decode cX2_init 13 = .ok (.iconst 0, 1) := by decide +kernel
theorem dX2_init_14 : decode cX2_init 14 = .ok (.putfield 15, 3) := by decide +kernel
theorem dX2_init_17 : decode cX2_init 17 = .ok (.return_, 1) := by decide +kernel
theorem dX2_add_0 : decode cX2_add 0 = .ok (.aload_n 0, 1) := by decide +kernel
theorem dX2_add_1 : decode cX2_add 1 = .ok (.getfield 15, 3) := by decide +kernel
theorem dX2_add_4 : decode cX2_add 4 = .ok (.aload_n 0, 1) := by decide +kernel
theorem dX2_add_5 : decode cX2_add 5 = .ok (.getfield 9, 3) := by decide +kernel
theorem dX2_add_8 : decode cX2_add 8 = .ok (.arraylength, 1) := by decide +kernel
theorem dX2_add_9 : decode cX2_add 9 = .ok (.if_icmp .lt 5, 3) := by decide +kernel
theorem dX2_add_12 : decode cX2_add 12 = .ok (.iconst 0, 1) := by decide +kernel
theorem dX2_add_13 : decode cX2_add 13 = .ok (.ireturn, 1) := by decide +kernel
theorem dX2_add_14 : decode cX2_add 14 = .ok (.aload_n 0, 1) := by decide +kernel
theorem dX2_add_15 : decode cX2_add 15 = .ok (.getfield 9, 3) := by decide +kernel
theorem dX2_add_18 : decode cX2_add 18 = .ok (.aload_n 0, 1) := by decide +kernel
theorem dX2_add_19 : decode cX2_add 19 = .ok (.getfield 15, 3) := by decide +kernel
theorem dX2_add_22 : decode cX2_add 22 = .ok (.iload_n 1, 1) := by decide +kernel
theorem dX2_add_23 : decode cX2_add 23 = .ok (.iastore, 1) := by decide +kernel
theorem dX2_add_24 : decode cX2_add 24 = .ok (.aload_n 0, 1) := by decide +kernel
theorem dX2_add_25 : decode cX2_add 25 = .ok (.dup, 1) := by decide +kernel
theorem dX2_add_26 : decode cX2_add 26 = .ok (.getfield 15, 3) := by decide +kernel
theorem dX2_add_29 : decode cX2_add 29 = .ok (.iconst 1, 1) := by decide +kernel
theorem dX2_add_30 : decode cX2_add 30 = .ok (.iadd, 1) := by decide +kernel
theorem dX2_add_31 : decode cX2_add 31 = .ok (.putfield 15, 3) := by decide +kernel
theorem dX2_add_34 : decode cX2_add 34 = .ok (.iconst 1, 1) := by decide +kernel
theorem dX2_add_35 : decode cX2_add 35 = .ok (.ireturn, 1) := by decide +kernel
theorem dX2_ideaAt_0 : decode cX2_ideaAt 0 = .ok (.iload_n 1, 1) := by decide +kernel
theorem dX2_ideaAt_1 : decode cX2_ideaAt 1 = .ok (.iconst 0, 1) := by decide +kernel
theorem dX2_ideaAt_2 : decode cX2_ideaAt 2 = .ok (.aload_n 0, 1) := by decide +kernel
theorem dX2_ideaAt_3 : decode cX2_ideaAt 3 = .ok (.getfield 15, 3) := by decide +kernel
theorem dX2_ideaAt_6 : decode cX2_ideaAt 6 = .ok (.iconst 1, 1) := by decide +kernel
theorem dX2_ideaAt_7 : decode cX2_ideaAt 7 = .ok (.isub, 1) := by decide +kernel
theorem dX2_ideaAt_8 : decode cX2_ideaAt 8 = .ok (.invokestatic 19, 3) := by decide +kernel
theorem dX2_ideaAt_11 : decode cX2_ideaAt 11 = .ok (.ifCond .ne 12, 3) := by decide +kernel
theorem dX2_ideaAt_14 : decode cX2_ideaAt 14 = .ok (.iload_n 1, 1) := by decide +kernel
theorem dX2_ideaAt_15 : decode cX2_ideaAt 15 = .ok (.aload_n 0, 1) := by decide +kernel
theorem dX2_ideaAt_16 : decode cX2_ideaAt 16 = .ok (.getfield 9, 3) := by decide +kernel
theorem dX2_ideaAt_19 : decode cX2_ideaAt 19 = .ok (.arraylength, 1) := by decide +kernel
theorem dX2_ideaAt_20 : decode cX2_ideaAt 20 = .ok (.if_icmp .lt 7, 3) := by decide +kernel
theorem dX2_ideaAt_23 : decode cX2_ideaAt 23 = .ok (.iconst (-1), 1) := by decide +kernel
theorem dX2_ideaAt_24 : decode cX2_ideaAt 24 = .ok (.goto 9, 3) := by decide +kernel
theorem dX2_ideaAt_27 : decode cX2_ideaAt 27 = .ok (.aload_n 0, 1) := by decide +kernel
theorem dX2_ideaAt_28 : decode cX2_ideaAt 28 = .ok (.getfield 9, 3) := by decide +kernel
theorem dX2_ideaAt_31 : decode cX2_ideaAt 31 = .ok (.iload_n 1, 1) := by decide +kernel
theorem dX2_ideaAt_32 : decode cX2_ideaAt 32 = .ok (.iaload, 1) := by decide +kernel
theorem dX2_ideaAt_33 : decode cX2_ideaAt 33 = .ok (.ireturn, 1) := by decide +kernel
theorem dX3_init_0 : decode cX3_init 0 = .ok (.aload_n 0, 1) := by decide +kernel
theorem dX3_init_1 : decode cX3_init 1 = .ok (.invokespecial 3, 3) := by decide +kernel
theorem dX3_init_4 : decode cX3_init 4 = .ok (.aload_n 0, 1) := by decide +kernel
theorem dX3_init_5 : decode cX3_init 5 = .ok (.iload_n 1, 1) := by decide +kernel
theorem dX3_init_6 : decode cX3_init 6 = .ok (.putfield 9, 3) := by decide +kernel
theorem dX3_init_9 : decode cX3_init 9 = .ok (.aload_n 0, 1) := by decide +kernel
theorem dX3_init_10 : decode cX3_init 10 = .ok (.iload_n 2, 1) := by decide +kernel
theorem dX3_init_11 : decode cX3_init 11 = .ok (.putfield 15, 3) := by decide +kernel
theorem dX3_init_14 : decode cX3_init 14 = .ok (.aload_n 0, 1) := by decide +kernel
theorem dX3_init_15 : decode cX3_init 15 = .ok (.iload_n 3, 1) := by decide +kernel
theorem dX3_init_16 : decode cX3_init 16 = .ok (.putfield 18, 3) := by decide +kernel
theorem dX3_init_19 : decode cX3_init 19 = .ok (.aload_n 0, 1) := by decide +kernel
theorem dX3_init_20 : decode cX3_init 20 = .ok (.aload 4, 2) := by decide +kernel
theorem dX3_init_22 : decode cX3_init 22 = .ok (.getfield 21, 3) := by decide +kernel
theorem dX3_init_25 : decode cX3_init 25 = .ok (.putfield 26, 3) := by decide +kernel
theorem dX3_init_28 : decode cX3_init 28 = .ok (.aload_n 0, 1) := by decide +kernel
theorem dX3_init_29 : decode cX3_init 29 = .ok (.aload 4, 2) := by decide +kernel
theorem dX3_init_31 : decode cX3_init 31 = .ok (.getfield 27, 3) := by decide +kernel
theorem dX3_init_34 : decode cX3_init 34 = .ok (.ifCond .le 7, 3) := by decide +kernel
theorem dX3_init_37 : decode cX3_init 37 = .ok (.iconst 1, 1) := by decide +kernel
theorem dX3_init_38 : decode cX3_init 38 = .ok (.goto 4, 3) := by decide +kernel
theorem dX3_init_41 : decode cX3_init 41 = .ok (.iconst 0, 1) := by decide +kernel
theorem dX3_init_42 : decode cX3_init 42 = .ok (.putfield 30, 3) := by decide +kernel
theorem dX3_init_45 : decode cX3_init 45 = .ok (.aload_n 0, 1) := by decide +kernel
theorem dX3_init_46 : decode cX3_init 46 = .ok (.aload 4, 2) := by decide +kernel
theorem dX3_init_48 : decode cX3_init 48 = .ok (.invokevirtual 34, 3) := by decide +kernel
theorem dX3_init_51 : decode cX3_init 51 = .ok (.putfield 38, 3) := by decide +kernel
theorem dX3_init_54 : decode cX3_init 54 = .ok (.aload_n 0, 1) := by decide +kernel
theorem dX3_init_55 : decode cX3_init 55 = .ok (.aload 4, 2) := by decide +kernel
theorem dX3_init_57 : decode cX3_init 57 = .ok (.invokevirtual 34, 3) := by decide +kernel
theorem dX3_init_60 : decode cX3_init 60 = .ok (.putfield 42, 3) := by decide +kernel
theorem dX3_init_63 : decode cX3_init 63 = .ok (.aload_n 0, 1) := by decide +kernel
theorem dX3_init_64 : decode cX3_init 64 = .ok (.aload 5, 2) := by decide +kernel
theorem dX3_init_66 : decode cX3_init 66 = .ok (.invokevirtual 45, 3) := by decide +kernel
theorem dX3_init_69 : decode cX3_init 69 = .ok (.putfield 50, 3) := by decide +kernel
theorem dX3_init_72 : decode cX3_init 72 = .ok (.aload_n 0, 1) := by decide +kernel
theorem dX3_init_73 : decode cX3_init 73 = .ok (.aload_n 0, 1) := by decide +kernel
theorem dX3_init_74 : decode cX3_init 74 = .ok (.aload 5, 2) := by decide +kernel
theorem dX3_init_76 : decode cX3_init 76 = .ok (.invokevirtual 53, 3) := by decide +kernel
theorem dX3_init_79 : decode cX3_init 79 = .ok (.invokevirtual 57, 3) := by decide +kernel
theorem dX3_init_82 : decode cX3_init 82 = .ok (.putfield 61, 3) := by decide +kernel
theorem dX3_init_85 : decode cX3_init 85 = .ok (.aload_n 0, 1) := by decide +kernel
theorem dX3_init_86 : decode cX3_init 86 = .ok (.iconst 0, 1) := by decide +kernel
theorem dX3_init_87 : decode cX3_init 87 = .ok (.putfield 64, 3) := by decide +kernel
theorem dX3_init_90 : decode cX3_init 90 = .ok (.aload_n 0, 1) := by decide +kernel
theorem dX3_init_91 : decode cX3_init 91 = .ok (.iload_n 1, 1) := by decide +kernel
theorem dX3_init_92 : decode cX3_init 92 = .ok (.putfield 67, 3) := by decide +kernel
theorem dX3_init_95 : decode cX3_init 95 = .ok (.aload_n 0, 1) := by decide +kernel
theorem dX3_init_96 : decode cX3_init 96 = .ok (.iconst 0, 1) := by decide +kernel
theorem dX3_init_97 : decode cX3_init 97 = .ok (.putfield 70, 3) := by decide +kernel
theorem dX3_init_100 : decode cX3_init 100 = .ok (.aload_n 0, 1) := by decide +kernel
theorem dX3_init_101 : decode cX3_init 101 = .ok (.iconst 0, 1) := by decide +kernel
theorem dX3_init_102 : decode cX3_init 102 = .ok (.putfield 73, 3) := by decide +kernel
theorem dX3_init_105 : decode cX3_init 105 = .ok (.return_, 1) := by decide +kernel
theorem dX3_priceAt_0 : decode cX3_priceAt 0 = .ok (.aload_n 0, 1) := by decide +kernel
theorem dX3_priceAt_1 : decode cX3_priceAt 1 = .ok (.getfield 18, 3) := by decide +kernel
theorem dX3_priceAt_4 : decode cX3_priceAt 4 = .ok (.iconst 2, 1) := by decide +kernel
theorem dX3_priceAt_5 : decode cX3_priceAt 5 = .ok (.if_icmp .ne 7, 3) := by decide +kernel
theorem dX3_priceAt_8 : decode cX3_priceAt 8 = .ok (.iconst 4, 1) := by decide +kernel
theorem dX3_priceAt_9 : decode cX3_priceAt 9 = .ok (.goto 16, 3) := by decide +kernel
theorem dX3_priceAt_12 : decode cX3_priceAt 12 = .ok (.aload_n 0, 1) := by decide +kernel
theorem dX3_priceAt_13 : decode cX3_priceAt 13 = .ok (.getfield 18, 3) := by decide +kernel
theorem dX3_priceAt_16 : decode cX3_priceAt 16 = .ok (.iconst 1, 1) := by decide +kernel
theorem dX3_priceAt_17 : decode cX3_priceAt 17 = .ok (.if_icmp .ne 7, 3) := by decide +kernel
theorem dX3_priceAt_20 : decode cX3_priceAt 20 = .ok (.iconst 2, 1) := by decide +kernel
theorem dX3_priceAt_21 : decode cX3_priceAt 21 = .ok (.goto 4, 3) := by decide +kernel
theorem dX3_priceAt_24 : decode cX3_priceAt 24 = .ok (.iconst 1, 1) := by decide +kernel
theorem dX3_priceAt_25 : decode cX3_priceAt 25 = .ok (.istore_n 2, 1) := by decide +kernel
theorem dX3_priceAt_26 : decode cX3_priceAt 26 = .ok (.iload_n 1, 1) := by decide +kernel
theorem dX3_priceAt_27 : decode cX3_priceAt 27 = .ok (.aload_n 0, 1) := by decide +kernel
theorem dX3_priceAt_28 : decode cX3_priceAt 28 = .ok (.getfield 26, 3) := by decide +kernel
theorem dX3_priceAt_31 : decode cX3_priceAt 31 = .ok (.imul, 1) := by decide +kernel
theorem dX3_priceAt_32 : decode cX3_priceAt 32 = .ok (.iload_n 2, 1) := by decide +kernel
theorem dX3_priceAt_33 : decode cX3_priceAt 33 = .ok (.imul, 1) := by decide +kernel
theorem dX3_priceAt_34 : decode cX3_priceAt 34 = .ok (.ireturn, 1) := by decide +kernel
theorem dX3_hasWord_0 : decode cX3_hasWord 0 = .ok (.iload_n 1, 1) := by decide +kernel
theorem dX3_hasWord_1 : decode cX3_hasWord 1 = .ok (.iconst 0, 1) := by decide +kernel
theorem dX3_hasWord_2 : decode cX3_hasWord 2 = .ok (.aload_n 0, 1) := by decide +kernel
theorem dX3_hasWord_3 : decode cX3_hasWord 3 = .ok (.getfield 38, 3) := by decide +kernel
theorem dX3_hasWord_6 : decode cX3_hasWord 6 = .ok (.arraylength, 1) := by decide +kernel
theorem dX3_hasWord_7 : decode cX3_hasWord 7 = .ok (.iconst 1, 1) := by decide +kernel
theorem dX3_hasWord_8 : decode cX3_hasWord 8 = .ok (.isub, 1) := by decide +kernel
theorem dX3_hasWord_9 : decode cX3_hasWord 9 = .ok (.invokestatic 76, 3) := by decide +kernel
theorem dX3_hasWord_12 : decode cX3_hasWord 12 = .ok (.ifCond .ne 16, 3) := by decide +kernel
theorem dX3_hasWord_15 : decode cX3_hasWord 15 = .ok (.iload_n 1, 1) := by decide +kernel
theorem dX3_hasWord_16 : decode cX3_hasWord 16 = .ok (.aload_n 0, 1) := by decide +kernel
theorem dX3_hasWord_17 : decode cX3_hasWord 17 = .ok (.getfield 42, 3) := by decide +kernel
theorem dX3_hasWord_20 : decode cX3_hasWord 20 = .ok (.arraylength, 1) := by decide +kernel
theorem dX3_hasWord_21 : decode cX3_hasWord 21 = .ok (.if_icmp .ge 7, 3) := by decide +kernel
theorem dX3_hasWord_24 : decode cX3_hasWord 24 = .ok (.iconst 1, 1) := by decide +kernel
theorem dX3_hasWord_25 : decode cX3_hasWord 25 = .ok (.goto 4, 3) := by decide +kernel
theorem dX3_hasWord_28 : decode cX3_hasWord 28 = .ok (.iconst 0, 1) := by decide +kernel
theorem dX3_hasWord_29 : decode cX3_hasWord 29 = .ok (.ireturn, 1) := by decide +kernel
theorem dX3_wordSent_0 : decode cX3_wordSent 0 = .ok (.aload_n 0, 1) := by decide +kernel
theorem dX3_wordSent_1 : decode cX3_wordSent 1 = .ok (.iload_n 1, 1) := by decide +kernel
theorem dX3_wordSent_2 : decode cX3_wordSent 2 = .ok (.invokevirtual 80, 3) := by decide +kernel
theorem dX3_wordSent_5 : decode cX3_wordSent 5 = .ok (.ifCond .eq 12, 3) := by decide +kernel
theorem dX3_wordSent_8 : decode cX3_wordSent 8 = .ok (.aload_n 0, 1) := by decide +kernel
theorem dX3_wordSent_9 : decode cX3_wordSent 9 = .ok (.getfield 38, 3) := by decide +kernel
theorem dX3_wordSent_12 : decode cX3_wordSent 12 = .ok (.iload_n 1, 1) := by decide +kernel
theorem dX3_wordSent_13 : decode cX3_wordSent 13 = .ok (.iaload, 1) := by decide +kernel
theorem dX3_wordSent_14 : decode cX3_wordSent 14 = .ok (.goto 4, 3) := by decide +kernel
theorem dX3_wordSent_17 : decode cX3_wordSent 17 = .ok (.iconst (-1), 1) := by decide +kernel
theorem dX3_wordSent_18 : decode cX3_wordSent 18 = .ok (.ireturn, 1) := by decide +kernel
theorem dX3_wordNow_0 : decode cX3_wordNow 0 = .ok (.aload_n 0, 1) := by decide +kernel
theorem dX3_wordNow_1 : decode cX3_wordNow 1 = .ok (.iload_n 1, 1) := by decide +kernel
theorem dX3_wordNow_2 : decode cX3_wordNow 2 = .ok (.invokevirtual 80, 3) := by decide +kernel
theorem dX3_wordNow_5 : decode cX3_wordNow 5 = .ok (.ifCond .eq 12, 3) := by decide +kernel
theorem dX3_wordNow_8 : decode cX3_wordNow 8 = .ok (.aload_n 0, 1) := by decide +kernel
theorem dX3_wordNow_9 : decode cX3_wordNow 9 = .ok (.getfield 42, 3) := by decide +kernel
theorem dX3_wordNow_12 : decode cX3_wordNow 12 = .ok (.iload_n 1, 1) := by decide +kernel
theorem dX3_wordNow_13 : decode cX3_wordNow 13 = .ok (.iaload, 1) := by decide +kernel
theorem dX3_wordNow_14 : decode cX3_wordNow 14 = .ok (.goto 4, 3) := by decide +kernel
theorem dX3_wordNow_17 : decode cX3_wordNow 17 = .ok (.iconst (-1), 1) := by decide +kernel
theorem dX3_wordNow_18 : decode cX3_wordNow 18 = .ok (.ireturn, 1) := by decide +kernel
theorem dX3_change_0 : decode cX3_change 0 = .ok (.aload_n 0, 1) := by decide +kernel
theorem dX3_change_1 : decode cX3_change 1 = .ok (.iload_n 1, 1) := by decide +kernel
theorem dX3_change_2 : decode cX3_change 2 = .ok (.invokevirtual 80, 3) := by decide +kernel
theorem dX3_change_5 : decode cX3_change 5 = .ok (.ifCond .eq 10, 3) := by decide +kernel
theorem dX3_change_8 : decode cX3_change 8 = .ok (.aload_n 0, 1) := by decide +kernel
theorem dX3_change_9 : decode cX3_change 9 = .ok (.getfield 42, 3) := by decide +kernel
theorem dX3_change_12 : decode cX3_change 12 = .ok (.iload_n 1, 1) := by decide +kernel
theorem dX3_change_13 : decode cX3_change 13 = .ok (.iload_n 2, 1) := by decide +kernel
theorem dX3_change_14 : decode cX3_change 14 = .ok (.iastore, 1) := by decide +kernel
theorem dX3_change_15 : decode cX3_change 15 = .ok (.return_, 1) := by decide +kernel
theorem dX3_cableNow_0 : decode cX3_cableNow 0 = .ok (.aload_n 0, 1) := by decide +kernel
theorem dX3_cableNow_1 : decode cX3_cableNow 1 = .ok (.getfield 64, 3) := by decide +kernel
theorem dX3_cableNow_4 : decode cX3_cableNow 4 = .ok (.ifCond .ne 21, 3) := by decide +kernel
theorem dX3_cableNow_7 : decode cX3_cableNow 7 = .ok (.aload_n 0, 1) := by decide +kernel
theorem dX3_cableNow_8 : decode cX3_cableNow 8 = .ok (.getfield 70, 3) := by decide +kernel
theorem dX3_cableNow_11 : decode cX3_cableNow 11 = .ok (.iconst 0, 1) := by decide +kernel
theorem dX3_cableNow_12 : decode cX3_cableNow 12 = .ok (.aload_n 0, 1) := by decide +kernel
theorem dX3_cableNow_13 : decode cX3_cableNow 13 = .ok (.getfield 50, 3) := by decide +kernel
theorem dX3_cableNow_16 : decode cX3_cableNow 16 = .ok (.arraylength, 1) := by decide +kernel
theorem dX3_cableNow_17 : decode cX3_cableNow 17 = .ok (.iconst 1, 1) := by decide +kernel
theorem dX3_cableNow_18 : decode cX3_cableNow 18 = .ok (.isub, 1) := by decide +kernel
theorem dX3_cableNow_19 : decode cX3_cableNow 19 = .ok (.invokestatic 76, 3) := by decide +kernel
theorem dX3_cableNow_22 : decode cX3_cableNow 22 = .ok (.ifCond .eq 7, 3) := by decide +kernel
theorem dX3_cableNow_25 : decode cX3_cableNow 25 = .ok (.iconst (-1), 1) := by decide +kernel
theorem dX3_cableNow_26 : decode cX3_cableNow 26 = .ok (.goto 12, 3) := by decide +kernel
theorem dX3_cableNow_29 : decode cX3_cableNow 29 = .ok (.aload_n 0, 1) := by decide +kernel
theorem dX3_cableNow_30 : decode cX3_cableNow 30 = .ok (.getfield 50, 3) := by decide +kernel
theorem dX3_cableNow_33 : decode cX3_cableNow 33 = .ok (.aload_n 0, 1) := by decide +kernel
theorem dX3_cableNow_34 : decode cX3_cableNow 34 = .ok (.getfield 70, 3) := by decide +kernel
theorem dX3_cableNow_37 : decode cX3_cableNow 37 = .ok (.iaload, 1) := by decide +kernel
theorem dX3_cableNow_38 : decode cX3_cableNow 38 = .ok (.ireturn, 1) := by decide +kernel
theorem dX4_init_0 : decode cX4_init 0 = .ok (.aload_n 0, 1) := by decide +kernel
theorem dX4_init_1 : decode cX4_init 1 = .ok (.invokespecial 3, 3) := by decide +kernel
theorem dX4_init_4 : decode cX4_init 4 = .ok (.aload_n 0, 1) := by decide +kernel
theorem dX4_init_5 : decode cX4_init 5 = .ok (.bipush 8, 2) := by decide +kernel
theorem dX4_init_7 : decode cX4_init 7 = .ok (.anewarray 9, 3) := by decide +kernel
theorem dX4_init_10 : decode cX4_init 10 = .ok (.putfield 11, 3) := by decide +kernel
theorem dX4_init_13 : decode cX4_init 13 = .ok (.aload_n 0, 1) := by decide +kernel
theorem dX4_init_14 : decode cX4_init 14 = .ok (.bipush 12, 2) := by decide +kernel
theorem dX4_init_16 : decode cX4_init 16 = .ok (.anewarray 17, 3) := by decide +kernel
theorem dX4_init_19 : decode cX4_init 19 = .ok (.putfield 19, 3) := by decide +kernel
theorem dX4_init_22 : decode cX4_init 22 = .ok (.aload_n 0, 1) := by decide +kernel
theorem dX4_init_23 : decode cX4_init 23 = .ok (.bipush 8, 2) := by decide +kernel
theorem dX4_init_25 : decode cX4_init 25 = .ok (.newarray .int, 2) := by decide +kernel
theorem dX4_init_27 : decode cX4_init 27 = .ok (.putfield 23, 3) := by decide +kernel
theorem dX4_init_30 : decode cX4_init 30 = .ok (.aload_n 0, 1) := by decide +kernel
theorem dX4_init_31 : decode cX4_init 31 = .ok (.bipush 8, 2) := by decide +kernel
theorem dX4_init_33 : decode cX4_init 33 = .ok (.newarray .int, 2) := by decide +kernel
theorem dX4_init_35 : decode cX4_init 35 = .ok (.putfield 27, 3) := by decide +kernel
theorem dX4_init_38 : decode cX4_init 38 = .ok (.aload_n 0, 1) := by decide +kernel
theorem dX4_init_39 : decode cX4_init 39 = .ok (.iconst 0, 1) := by decide +kernel
theorem dX4_init_40 : decode cX4_init 40 = .ok (.putfield 30, 3) := by decide +kernel
theorem dX4_init_43 : decode cX4_init 43 = .ok (.aload_n 0, 1) := by decide +kernel
theorem dX4_init_44 : decode cX4_init 44 = .ok (.iconst 0, 1) := by decide +kernel
theorem dX4_init_45 : decode cX4_init 45 = .ok (.putfield 34, 3) := by decide +kernel
theorem dX4_init_48 : decode cX4_init 48 = .ok (.aload_n 0, 1) := by decide +kernel
theorem dX4_init_49 : decode cX4_init 49 = .ok (.iconst 0, 1) := by decide +kernel
theorem dX4_init_50 : decode cX4_init 50 = .ok (.putfield 37, 3) := by decide +kernel
theorem dX4_init_53 : decode cX4_init 53 = .ok (.return_, 1) := by decide +kernel
theorem dX4_addOffice_0 : decode cX4_addOffice 0 = .ok (.aload_n 0, 1) := by decide +kernel
theorem dX4_addOffice_1 : decode cX4_addOffice 1 = .ok (.getfield 30, 3) := by decide +kernel
theorem dX4_addOffice_4 : decode cX4_addOffice 4 = .ok (.aload_n 0, 1) := by decide +kernel
theorem dX4_addOffice_5 : decode cX4_addOffice 5 = .ok (.getfield 11, 3) := by decide +kernel
theorem dX4_addOffice_8 : decode cX4_addOffice 8 = .ok (.arraylength, 1) := by decide +kernel
theorem dX4_addOffice_9 : decode cX4_addOffice 9 = .ok (.if_icmp .lt 5, 3) := by decide +kernel
theorem dX4_addOffice_12 : decode cX4_addOffice 12 = .ok (.iconst (-1), 1) := by decide +kernel
theorem dX4_addOffice_13 : decode cX4_addOffice 13 = .ok (.ireturn, 1) := by decide +kernel
theorem dX4_addOffice_14 : decode cX4_addOffice 14 = .ok (.aload_n 0, 1) := by decide +kernel
theorem dX4_addOffice_15 : decode cX4_addOffice 15 = .ok (.getfield 11, 3) := by decide +kernel
theorem dX4_addOffice_18 : decode cX4_addOffice 18 = .ok (.aload_n 0, 1) := by decide +kernel
theorem dX4_addOffice_19 : decode cX4_addOffice 19 = .ok (.getfield 30, 3) := by decide +kernel
theorem dX4_addOffice_22 : decode cX4_addOffice 22 = .ok (.new 9, 3) := by decide +kernel
theorem dX4_addOffice_25 : decode cX4_addOffice 25 = .ok (.dup, 1) := by decide +kernel
theorem dX4_addOffice_26 : decode cX4_addOffice 26 = .ok (.invokespecial 40, 3) := by decide +kernel
theorem dX4_addOffice_29 : decode cX4_addOffice 29 = .ok (.aastore, 1) := by decide +kernel
theorem dX4_addOffice_30 : decode cX4_addOffice 30 = .ok (.aload_n 0, 1) := by decide +kernel
theorem dX4_addOffice_31 : decode cX4_addOffice 31 = .ok (.dup, 1) := by decide +kernel
theorem dX4_addOffice_32 : decode cX4_addOffice 32 = .ok (.getfield 30, 3) := by decide +kernel
theorem dX4_addOffice_35 : decode cX4_addOffice 35 = .ok (.iconst 1, 1) := by decide +kernel
theorem dX4_addOffice_36 : decode cX4_addOffice 36 = .ok (.iadd, 1) := by decide +kernel
theorem dX4_addOffice_37 : decode cX4_addOffice 37 = .ok (.putfield 30, 3) := by decide +kernel
theorem dX4_addOffice_40 : decode cX4_addOffice 40 = .ok (.aload_n 0, 1) := by decide +kernel
theorem dX4_addOffice_41 : decode cX4_addOffice 41 = .ok (.getfield 30, 3) := by decide +kernel
theorem dX4_addOffice_44 : decode cX4_addOffice 44 = .ok (.iconst 1, 1) := by decide +kernel
theorem dX4_addOffice_45 : decode cX4_addOffice 45 = .ok (.isub, 1) := by decide +kernel
theorem dX4_addOffice_46 : decode cX4_addOffice 46 = .ok (.ireturn, 1) := by decide +kernel
theorem dX4_officeAt_0 : decode cX4_officeAt 0 = .ok (.iload_n 1, 1) := by decide +kernel
theorem dX4_officeAt_1 : decode cX4_officeAt 1 = .ok (.iconst 0, 1) := by decide +kernel
theorem dX4_officeAt_2 : decode cX4_officeAt 2 = .ok (.aload_n 0, 1) := by decide +kernel
theorem dX4_officeAt_3 : decode cX4_officeAt 3 = .ok (.getfield 30, 3) := by decide +kernel
theorem dX4_officeAt_6 : decode cX4_officeAt 6 = .ok (.iconst 1, 1) := by decide +kernel
theorem dX4_officeAt_7 : decode cX4_officeAt 7 = .ok (.isub, 1) := by decide +kernel
theorem dX4_officeAt_8 : decode cX4_officeAt 8 = .ok (.invokestatic 41, 3) := by decide +kernel
theorem dX4_officeAt_11 : decode cX4_officeAt 11 = .ok (.ifCond .ne 12, 3) := by decide +kernel
theorem dX4_officeAt_14 : decode cX4_officeAt 14 = .ok (.iload_n 1, 1) := by decide +kernel
theorem dX4_officeAt_15 : decode cX4_officeAt 15 = .ok (.aload_n 0, 1) := by decide +kernel
theorem dX4_officeAt_16 : decode cX4_officeAt 16 = .ok (.getfield 11, 3) := by decide +kernel
theorem dX4_officeAt_19 : decode cX4_officeAt 19 = .ok (.arraylength, 1) := by decide +kernel
theorem dX4_officeAt_20 : decode cX4_officeAt 20 = .ok (.if_icmp .lt 7, 3) := by decide +kernel
theorem dX4_officeAt_23 : decode cX4_officeAt 23 = .ok (.aconst_null, 1) := by decide +kernel
theorem dX4_officeAt_24 : decode cX4_officeAt 24 = .ok (.goto 9, 3) := by decide +kernel
theorem dX4_officeAt_27 : decode cX4_officeAt 27 = .ok (.aload_n 0, 1) := by decide +kernel
theorem dX4_officeAt_28 : decode cX4_officeAt 28 = .ok (.getfield 11, 3) := by decide +kernel
theorem dX4_officeAt_31 : decode cX4_officeAt 31 = .ok (.iload_n 1, 1) := by decide +kernel
theorem dX4_officeAt_32 : decode cX4_officeAt 32 = .ok (.aaload, 1) := by decide +kernel
theorem dX4_officeAt_33 : decode cX4_officeAt 33 = .ok (.areturn, 1) := by decide +kernel
theorem dX4_addCable_0 : decode cX4_addCable 0 = .ok (.aload_n 0, 1) := by decide +kernel
theorem dX4_addCable_1 : decode cX4_addCable 1 = .ok (.getfield 34, 3) := by decide +kernel
theorem dX4_addCable_4 : decode cX4_addCable 4 = .ok (.aload_n 0, 1) := by decide +kernel
theorem dX4_addCable_5 : decode cX4_addCable 5 = .ok (.getfield 19, 3) := by decide +kernel
theorem dX4_addCable_8 : decode cX4_addCable 8 = .ok (.arraylength, 1) := by decide +kernel
theorem dX4_addCable_9 : decode cX4_addCable 9 = .ok (.if_icmp .lt 5, 3) := by decide +kernel
theorem dX4_addCable_12 : decode cX4_addCable 12 = .ok (.iconst (-1), 1) := by decide +kernel
theorem dX4_addCable_13 : decode cX4_addCable 13 = .ok (.ireturn, 1) := by decide +kernel
theorem dX4_addCable_14 : decode cX4_addCable 14 = .ok (.aload_n 0, 1) := by decide +kernel
theorem dX4_addCable_15 : decode cX4_addCable 15 = .ok (.getfield 19, 3) := by decide +kernel
theorem dX4_addCable_18 : decode cX4_addCable 18 = .ok (.aload_n 0, 1) := by decide +kernel
theorem dX4_addCable_19 : decode cX4_addCable 19 = .ok (.getfield 34, 3) := by decide +kernel
theorem dX4_addCable_22 : decode cX4_addCable 22 = .ok (.new 17, 3) := by decide +kernel
theorem dX4_addCable_25 : decode cX4_addCable 25 = .ok (.dup, 1) := by decide +kernel
theorem dX4_addCable_26 : decode cX4_addCable 26 = .ok (.iload_n 1, 1) := by decide +kernel
theorem dX4_addCable_27 : decode cX4_addCable 27 = .ok (.iload_n 2, 1) := by decide +kernel
theorem dX4_addCable_28 : decode cX4_addCable 28 = .ok (.iload_n 3, 1) := by decide +kernel
theorem dX4_addCable_29 : decode cX4_addCable 29 = .ok (.iload 4, 2) := by decide +kernel
theorem dX4_addCable_31 : decode cX4_addCable 31 = .ok (.invokespecial 45, 3) := by decide +kernel
theorem dX4_addCable_34 : decode cX4_addCable 34 = .ok (.aastore, 1) := by decide +kernel
theorem dX4_addCable_35 : decode cX4_addCable 35 = .ok (.aload_n 0, 1) := by decide +kernel
theorem dX4_addCable_36 : decode cX4_addCable 36 = .ok (.dup, 1) := by decide +kernel
theorem dX4_addCable_37 : decode cX4_addCable 37 = .ok (.getfield 34, 3) := by decide +kernel
theorem dX4_addCable_40 : decode cX4_addCable 40 = .ok (.iconst 1, 1) := by decide +kernel
theorem dX4_addCable_41 : decode cX4_addCable 41 = .ok (.iadd, 1) := by decide +kernel
theorem dX4_addCable_42 : decode cX4_addCable 42 = .ok (.putfield 34, 3) := by decide +kernel
theorem dX4_addCable_45 : decode cX4_addCable 45 = .ok (.aload_n 0, 1) := by decide +kernel
theorem dX4_addCable_46 : decode cX4_addCable 46 = .ok (.getfield 34, 3) := by decide +kernel
theorem dX4_addCable_49 : decode cX4_addCable 49 = .ok (.iconst 1, 1) := by decide +kernel
theorem dX4_addCable_50 : decode cX4_addCable 50 = .ok (.isub, 1) := by decide +kernel
theorem dX4_addCable_51 : decode cX4_addCable 51 = .ok (.ireturn, 1) := by decide +kernel
theorem dX4_cableAt_0 : decode cX4_cableAt 0 = .ok (.iload_n 1, 1) := by decide +kernel
theorem dX4_cableAt_1 : decode cX4_cableAt 1 = .ok (.iconst 0, 1) := by decide +kernel
theorem dX4_cableAt_2 : decode cX4_cableAt 2 = .ok (.aload_n 0, 1) := by decide +kernel
theorem dX4_cableAt_3 : decode cX4_cableAt 3 = .ok (.getfield 34, 3) := by decide +kernel
theorem dX4_cableAt_6 : decode cX4_cableAt 6 = .ok (.iconst 1, 1) := by decide +kernel
theorem dX4_cableAt_7 : decode cX4_cableAt 7 = .ok (.isub, 1) := by decide +kernel
theorem dX4_cableAt_8 : decode cX4_cableAt 8 = .ok (.invokestatic 41, 3) := by decide +kernel
theorem dX4_cableAt_11 : decode cX4_cableAt 11 = .ok (.ifCond .ne 12, 3) := by decide +kernel
theorem dX4_cableAt_14 : decode cX4_cableAt 14 = .ok (.iload_n 1, 1) := by decide +kernel
theorem dX4_cableAt_15 : decode cX4_cableAt 15 = .ok (.aload_n 0, 1) := by decide +kernel
theorem dX4_cableAt_16 : decode cX4_cableAt 16 = .ok (.getfield 19, 3) := by decide +kernel
theorem dX4_cableAt_19 : decode cX4_cableAt 19 = .ok (.arraylength, 1) := by decide +kernel
theorem dX4_cableAt_20 : decode cX4_cableAt 20 = .ok (.if_icmp .lt 7, 3) := by decide +kernel
theorem dX4_cableAt_23 : decode cX4_cableAt 23 = .ok (.aconst_null, 1) := by decide +kernel
theorem dX4_cableAt_24 : decode cX4_cableAt 24 = .ok (.goto 9, 3) := by decide +kernel
theorem dX4_cableAt_27 : decode cX4_cableAt 27 = .ok (.aload_n 0, 1) := by decide +kernel
theorem dX4_cableAt_28 : decode cX4_cableAt 28 = .ok (.getfield 19, 3) := by decide +kernel
theorem dX4_cableAt_31 : decode cX4_cableAt 31 = .ok (.iload_n 1, 1) := by decide +kernel
theorem dX4_cableAt_32 : decode cX4_cableAt 32 = .ok (.aaload, 1) := by decide +kernel
theorem dX4_cableAt_33 : decode cX4_cableAt 33 = .ok (.areturn, 1) := by decide +kernel
theorem dX4_startMinute_0 : decode cX4_startMinute 0 = .ok (.iconst 0, 1) := by decide +kernel
theorem dX4_startMinute_1 : decode cX4_startMinute 1 = .ok (.istore_n 1, 1) := by decide +kernel
theorem dX4_startMinute_2 : decode cX4_startMinute 2 = .ok (.iload_n 1, 1) := by decide +kernel
theorem dX4_startMinute_3 : decode cX4_startMinute 3 = .ok (.aload_n 0, 1) := by decide +kernel
theorem dX4_startMinute_4 : decode cX4_startMinute 4 = .ok (.getfield 34, 3) := by decide +kernel
theorem dX4_startMinute_7 : decode cX4_startMinute 7 = .ok (.if_icmp .ge 38, 3) := by decide +kernel
theorem dX4_startMinute_10 : decode cX4_startMinute 10 = .ok (.aload_n 0, 1) := by decide +kernel
theorem dX4_startMinute_11 : decode cX4_startMinute 11 = .ok (.iload_n 1, 1) := by decide +kernel
theorem dX4_startMinute_12 : decode cX4_startMinute 12 = .ok (.invokevirtual 48, 3) := by decide +kernel
theorem dX4_startMinute_15 : decode cX4_startMinute 15 = .ok (.astore_n 2, 1) := by decide +kernel
theorem dX4_startMinute_16 : decode cX4_startMinute 16 = .ok (.aload_n 2, 1) := by decide +kernel
theorem dX4_startMinute_17 : decode cX4_startMinute 17 = .ok (.ifnull 22, 3) := by decide +kernel
theorem dX4_startMinute_20 : decode cX4_startMinute 20 = .ok (.aload_n 2, 1) := by decide +kernel
theorem dX4_startMinute_21 : decode cX4_startMinute 21 = .ok (.aload_n 2, 1) := by decide +kernel
theorem dX4_startMinute_22 : decode cX4_startMinute 22 = .ok (.getfield 52, 3) := by decide +kernel
theorem dX4_startMinute_25 : decode cX4_startMinute 25 = .ok (.ifCond .eq 7, 3) := by decide +kernel
theorem dX4_startMinute_28 : decode cX4_startMinute 28 = .ok (.iconst 0, 1) := by decide +kernel
theorem dX4_startMinute_29 : decode cX4_startMinute 29 = .ok (.goto 7, 3) := by decide +kernel
theorem dX4_startMinute_32 : decode cX4_startMinute 32 = .ok (.aload_n 2, 1) := by decide +kernel
theorem dX4_startMinute_33 : decode cX4_startMinute 33 = .ok (.getfield 56, 3) := by decide +kernel
theorem dX4_startMinute_36 : decode cX4_startMinute 36 = .ok (.putfield 59, 3) := by decide +kernel
theorem dX4_startMinute_39 : decode cX4_startMinute 39 = .ok (.iinc 1 1, 3) := by decide +kernel
theorem dX4_startMinute_42 : decode cX4_startMinute 42 = .ok (.goto (-40), 3) := by decide +kernel
theorem dX4_startMinute_45 : decode cX4_startMinute 45 = .ok (.return_, 1) := by decide +kernel
theorem dX4_findRoute_0 : decode cX4_findRoute 0 = .ok (.aload_n 0, 1) := by decide +kernel
theorem dX4_findRoute_1 : decode cX4_findRoute 1 = .ok (.iload_n 2, 1) := by decide +kernel
theorem dX4_findRoute_2 : decode cX4_findRoute 2 = .ok (.invokevirtual 62, 3) := by decide +kernel
theorem dX4_findRoute_5 : decode cX4_findRoute 5 = .ok (.aload_n 0, 1) := by decide +kernel
theorem dX4_findRoute_6 : decode cX4_findRoute 6 = .ok (.iconst 0, 1) := by decide +kernel
theorem dX4_findRoute_7 : decode cX4_findRoute 7 = .ok (.putfield 37, 3) := by decide +kernel
theorem dX4_findRoute_10 : decode cX4_findRoute 10 = .ok (.iload_n 1, 1) := by decide +kernel
theorem dX4_findRoute_11 : decode cX4_findRoute 11 = .ok (.istore_n 3, 1) := by decide +kernel
theorem dX4_findRoute_12 : decode cX4_findRoute 12 = .ok (.iload_n 3, 1) := by decide +kernel
theorem dX4_findRoute_13 : decode cX4_findRoute 13 = .ok (.iload_n 2, 1) := by decide +kernel
theorem dX4_findRoute_14 : decode cX4_findRoute 14 = .ok (.if_icmp .eq 68, 3) := by decide +kernel
theorem dX4_findRoute_17 : decode cX4_findRoute 17 = .ok (.aload_n 0, 1) := by decide +kernel
theorem dX4_findRoute_18 : decode cX4_findRoute 18 = .ok (.getfield 37, 3) := by decide +kernel
theorem dX4_findRoute_21 : decode cX4_findRoute 21 = .ok (.aload_n 0, 1) := by decide +kernel
theorem dX4_findRoute_22 : decode cX4_findRoute 22 = .ok (.getfield 27, 3) := by decide +kernel
theorem dX4_findRoute_25 : decode cX4_findRoute 25 = .ok (.arraylength, 1) := by decide +kernel
theorem dX4_findRoute_26 : decode cX4_findRoute 26 = .ok (.if_icmp .ge 56, 3) := by decide +kernel
theorem dX4_findRoute_29 : decode cX4_findRoute 29 = .ok (.aload_n 0, 1) := by decide +kernel
theorem dX4_findRoute_30 : decode cX4_findRoute 30 = .ok (.iload_n 3, 1) := by decide +kernel
theorem dX4_findRoute_31 : decode cX4_findRoute 31 = .ok (.invokevirtual 66, 3) := by decide +kernel
theorem dX4_findRoute_34 : decode cX4_findRoute 34 = .ok (.istore 4, 2) := by decide +kernel
theorem dX4_findRoute_36 : decode cX4_findRoute 36 = .ok (.aload_n 0, 1) := by decide +kernel
theorem dX4_findRoute_37 : decode cX4_findRoute 37 = .ok (.iload 4, 2) := by decide +kernel
theorem dX4_findRoute_39 : decode cX4_findRoute 39 = .ok (.invokevirtual 48, 3) := by decide +kernel
theorem dX4_findRoute_42 : decode cX4_findRoute 42 = .ok (.astore 5, 2) := by decide +kernel
theorem dX4_findRoute_44 : decode cX4_findRoute 44 = .ok (.aload 5, 2) := by decide +kernel
theorem dX4_findRoute_46 : decode cX4_findRoute 46 = .ok (.ifnonnull 5, 3) := by decide +kernel
theorem dX4_findRoute_49 : decode cX4_findRoute 49 = .ok (.iconst 0, 1) := by decide +kernel
theorem dX4_findRoute_50 : decode cX4_findRoute 50 = .ok (.ireturn, 1) := by decide +kernel
theorem dX4_findRoute_51 : decode cX4_findRoute 51 = .ok (.aload_n 0, 1) := by decide +kernel
theorem dX4_findRoute_52 : decode cX4_findRoute 52 = .ok (.getfield 27, 3) := by decide +kernel
theorem dX4_findRoute_55 : decode cX4_findRoute 55 = .ok (.aload_n 0, 1) := by decide +kernel
theorem dX4_findRoute_56 : decode cX4_findRoute 56 = .ok (.getfield 37, 3) := by decide +kernel
theorem dX4_findRoute_59 : decode cX4_findRoute 59 = .ok (.iload 4, 2) := by decide +kernel
theorem dX4_findRoute_61 : decode cX4_findRoute 61 = .ok (.iastore, 1) := by decide +kernel
theorem dX4_findRoute_62 : decode cX4_findRoute 62 = .ok (.aload_n 0, 1) := by decide +kernel
theorem dX4_findRoute_63 : decode cX4_findRoute 63 = .ok (.dup, 1) := by decide +kernel
theorem dX4_findRoute_64 : decode cX4_findRoute 64 = .ok (.getfield 37, 3) := by decide +kernel
theorem dX4_findRoute_67 : decode cX4_findRoute 67 = .ok (.iconst 1, 1) := by decide +kernel
theorem dX4_findRoute_68 : decode cX4_findRoute 68 = .ok (.iadd, 1) := by decide +kernel
theorem dX4_findRoute_69 : decode cX4_findRoute 69 = .ok (.putfield 37, 3) := by decide +kernel
theorem dX4_findRoute_72 : decode cX4_findRoute 72 = .ok (.aload 5, 2) := by decide +kernel
theorem dX4_findRoute_74 : decode cX4_findRoute 74 = .ok (.iload_n 3, 1) := by decide +kernel
theorem dX4_findRoute_75 : decode cX4_findRoute 75 = .ok (.invokevirtual 70, 3) := by decide +kernel
theorem dX4_findRoute_78 : decode cX4_findRoute 78 = .ok (.istore_n 3, 1) := by decide +kernel
theorem dX4_findRoute_79 : decode cX4_findRoute 79 = .ok (.goto (-67), 3) := by decide +kernel
theorem dX4_findRoute_82 : decode cX4_findRoute 82 = .ok (.iload_n 3, 1) := by decide +kernel
theorem dX4_findRoute_83 : decode cX4_findRoute 83 = .ok (.iload_n 2, 1) := by decide +kernel
theorem dX4_findRoute_84 : decode cX4_findRoute 84 = .ok (.if_icmp .ne 7, 3) := by decide +kernel
theorem dX4_findRoute_87 : decode cX4_findRoute 87 = .ok (.iconst 1, 1) := by decide +kernel
theorem dX4_findRoute_88 : decode cX4_findRoute 88 = .ok (.goto 4, 3) := by decide +kernel
theorem dX4_findRoute_91 : decode cX4_findRoute 91 = .ok (.iconst 0, 1) := by decide +kernel
theorem dX4_findRoute_92 : decode cX4_findRoute 92 = .ok (.ireturn, 1) := by decide +kernel
theorem dX4_costOf_0 : decode cX4_costOf 0 = .ok (.aload_n 0, 1) := by decide +kernel
theorem dX4_costOf_1 : decode cX4_costOf 1 = .ok (.getfield 73, 3) := by decide +kernel
theorem dX4_costOf_4 : decode cX4_costOf 4 = .ok (.bipush 16, 2) := by decide +kernel
theorem dX4_costOf_6 : decode cX4_costOf 6 = .ok (.imul, 1) := by decide +kernel
theorem dX4_costOf_7 : decode cX4_costOf 7 = .ok (.iconst 1, 1) := by decide +kernel
theorem dX4_costOf_8 : decode cX4_costOf 8 = .ok (.iadd, 1) := by decide +kernel
theorem dX4_costOf_9 : decode cX4_costOf 9 = .ok (.ireturn, 1) := by decide +kernel
theorem dX4_findCosts_0 : decode cX4_findCosts 0 = .ok (.aload_n 0, 1) := by decide +kernel
theorem dX4_findCosts_1 : decode cX4_findCosts 1 = .ok (.getfield 23, 3) := by decide +kernel
theorem dX4_findCosts_4 : decode cX4_findCosts 4 = .ok (.ldc 76, 2) := by decide +kernel
theorem dX4_findCosts_6 : decode cX4_findCosts 6 = .ok (.invokestatic 77, 3) := by decide +kernel
theorem dX4_findCosts_9 : decode cX4_findCosts 9 = .ok (.aload_n 0, 1) := by decide +kernel
theorem dX4_findCosts_10 : decode cX4_findCosts 10 = .ok (.iload_n 1, 1) := by decide +kernel
theorem dX4_findCosts_11 : decode cX4_findCosts 11 = .ok (.iconst 0, 1) := by decide +kernel
theorem dX4_findCosts_12 : decode cX4_findCosts 12 = .ok (.invokevirtual 83, 3) := by decide +kernel
theorem dX4_findCosts_15 : decode cX4_findCosts 15 = .ok (.iconst 1, 1) := by decide +kernel
theorem dX4_findCosts_16 : decode cX4_findCosts 16 = .ok (.istore_n 2, 1) := by decide +kernel
theorem dX4_findCosts_17 : decode cX4_findCosts 17 = .ok (.iload_n 2, 1) := by decide +kernel
theorem dX4_findCosts_18 : decode cX4_findCosts 18 = .ok (.aload_n 0, 1) := by decide +kernel
theorem dX4_findCosts_19 : decode cX4_findCosts 19 = .ok (.getfield 30, 3) := by decide +kernel
theorem dX4_findCosts_22 : decode cX4_findCosts 22 = .ok (.if_icmp .ge 67, 3) := by decide +kernel
theorem dX4_findCosts_25 : decode cX4_findCosts 25 = .ok (.iconst 0, 1) := by decide +kernel
theorem dX4_findCosts_26 : decode cX4_findCosts 26 = .ok (.istore_n 3, 1) := by decide +kernel
theorem dX4_findCosts_27 : decode cX4_findCosts 27 = .ok (.iload_n 3, 1) := by decide +kernel
theorem dX4_findCosts_28 : decode cX4_findCosts 28 = .ok (.aload_n 0, 1) := by decide +kernel
theorem dX4_findCosts_29 : decode cX4_findCosts 29 = .ok (.getfield 34, 3) := by decide +kernel
theorem dX4_findCosts_32 : decode cX4_findCosts 32 = .ok (.if_icmp .ge 51, 3) := by decide +kernel
theorem dX4_findCosts_35 : decode cX4_findCosts 35 = .ok (.aload_n 0, 1) := by decide +kernel
theorem dX4_findCosts_36 : decode cX4_findCosts 36 = .ok (.iload_n 3, 1) := by decide +kernel
theorem dX4_findCosts_37 : decode cX4_findCosts 37 = .ok (.invokevirtual 48, 3) := by decide +kernel
theorem dX4_findCosts_40 : decode cX4_findCosts 40 = .ok (.astore 4, 2) := by decide +kernel
theorem dX4_findCosts_42 : decode cX4_findCosts 42 = .ok (.aload 4, 2) := by decide +kernel
theorem dX4_findCosts_44 : decode cX4_findCosts 44 = .ok (.ifnull 33, 3) := by decide +kernel
theorem dX4_findCosts_47 : decode cX4_findCosts 47 = .ok (.aload 4, 2) := by decide +kernel
theorem dX4_findCosts_49 : decode cX4_findCosts 49 = .ok (.getfield 52, 3) := by decide +kernel
theorem dX4_findCosts_52 : decode cX4_findCosts 52 = .ok (.ifCond .ne 25, 3) := by decide +kernel
theorem dX4_findCosts_55 : decode cX4_findCosts 55 = .ok (.aload_n 0, 1) := by decide +kernel
theorem dX4_findCosts_56 : decode cX4_findCosts 56 = .ok (.aload 4, 2) := by decide +kernel
theorem dX4_findCosts_58 : decode cX4_findCosts 58 = .ok (.getfield 87, 3) := by decide +kernel
theorem dX4_findCosts_61 : decode cX4_findCosts 61 = .ok (.aload 4, 2) := by decide +kernel
theorem dX4_findCosts_63 : decode cX4_findCosts 63 = .ok (.invokevirtual 90, 3) := by decide +kernel
theorem dX4_findCosts_66 : decode cX4_findCosts 66 = .ok (.aload_n 0, 1) := by decide +kernel
theorem dX4_findCosts_67 : decode cX4_findCosts 67 = .ok (.aload 4, 2) := by decide +kernel
theorem dX4_findCosts_69 : decode cX4_findCosts 69 = .ok (.getfield 94, 3) := by decide +kernel
theorem dX4_findCosts_72 : decode cX4_findCosts 72 = .ok (.aload 4, 2) := by decide +kernel
theorem dX4_findCosts_74 : decode cX4_findCosts 74 = .ok (.invokevirtual 90, 3) := by decide +kernel
theorem dX4_findCosts_77 : decode cX4_findCosts 77 = .ok (.iinc 3 1, 3) := by decide +kernel
theorem dX4_findCosts_80 : decode cX4_findCosts 80 = .ok (.goto (-53), 3) := by decide +kernel
theorem dX4_findCosts_83 : decode cX4_findCosts 83 = .ok (.iinc 2 1, 3) := by decide +kernel
theorem dX4_findCosts_86 : decode cX4_findCosts 86 = .ok (.goto (-69), 3) := by decide +kernel
theorem dX4_findCosts_89 : decode cX4_findCosts 89 = .ok (.return_, 1) := by decide +kernel
theorem dX4_lowerCost_0 : decode cX4_lowerCost 0 = .ok (.aload_n 0, 1) := by decide +kernel
theorem dX4_lowerCost_1 : decode cX4_lowerCost 1 = .ok (.aload_n 2, 1) := by decide +kernel
theorem dX4_lowerCost_2 : decode cX4_lowerCost 2 = .ok (.iload_n 1, 1) := by decide +kernel
theorem dX4_lowerCost_3 : decode cX4_lowerCost 3 = .ok (.invokevirtual 70, 3) := by decide +kernel
theorem dX4_lowerCost_6 : decode cX4_lowerCost 6 = .ok (.invokevirtual 97, 3) := by decide +kernel
theorem dX4_lowerCost_9 : decode cX4_lowerCost 9 = .ok (.aload_n 2, 1) := by decide +kernel
theorem dX4_lowerCost_10 : decode cX4_lowerCost 10 = .ok (.invokestatic 100, 3) := by decide +kernel
theorem dX4_lowerCost_13 : decode cX4_lowerCost 13 = .ok (.iadd, 1) := by decide +kernel
theorem dX4_lowerCost_14 : decode cX4_lowerCost 14 = .ok (.istore_n 3, 1) := by decide +kernel
theorem dX4_lowerCost_15 : decode cX4_lowerCost 15 = .ok (.iload_n 3, 1) := by decide +kernel
theorem dX4_lowerCost_16 : decode cX4_lowerCost 16 = .ok (.aload_n 0, 1) := by decide +kernel
theorem dX4_lowerCost_17 : decode cX4_lowerCost 17 = .ok (.iload_n 1, 1) := by decide +kernel
theorem dX4_lowerCost_18 : decode cX4_lowerCost 18 = .ok (.invokevirtual 97, 3) := by decide +kernel
theorem dX4_lowerCost_21 : decode cX4_lowerCost 21 = .ok (.if_icmp .ge 9, 3) := by decide +kernel
theorem dX4_lowerCost_24 : decode cX4_lowerCost 24 = .ok (.aload_n 0, 1) := by decide +kernel
theorem dX4_lowerCost_25 : decode cX4_lowerCost 25 = .ok (.iload_n 1, 1) := by decide +kernel
theorem dX4_lowerCost_26 : decode cX4_lowerCost 26 = .ok (.iload_n 3, 1) := by decide +kernel
theorem dX4_lowerCost_27 : decode cX4_lowerCost 27 = .ok (.invokevirtual 83, 3) := by decide +kernel
theorem dX4_lowerCost_30 : decode cX4_lowerCost 30 = .ok (.return_, 1) := by decide +kernel
theorem dX4_costFrom_0 : decode cX4_costFrom 0 = .ok (.iload_n 1, 1) := by decide +kernel
theorem dX4_costFrom_1 : decode cX4_costFrom 1 = .ok (.iconst 0, 1) := by decide +kernel
theorem dX4_costFrom_2 : decode cX4_costFrom 2 = .ok (.aload_n 0, 1) := by decide +kernel
theorem dX4_costFrom_3 : decode cX4_costFrom 3 = .ok (.getfield 23, 3) := by decide +kernel
theorem dX4_costFrom_6 : decode cX4_costFrom 6 = .ok (.arraylength, 1) := by decide +kernel
theorem dX4_costFrom_7 : decode cX4_costFrom 7 = .ok (.iconst 1, 1) := by decide +kernel
theorem dX4_costFrom_8 : decode cX4_costFrom 8 = .ok (.isub, 1) := by decide +kernel
theorem dX4_costFrom_9 : decode cX4_costFrom 9 = .ok (.invokestatic 41, 3) := by decide +kernel
theorem dX4_costFrom_12 : decode cX4_costFrom 12 = .ok (.ifCond .eq 8, 3) := by decide +kernel
theorem dX4_costFrom_15 : decode cX4_costFrom 15 = .ok (.ldc 76, 2) := by decide +kernel
theorem dX4_costFrom_17 : decode cX4_costFrom 17 = .ok (.goto 9, 3) := by decide +kernel
theorem dX4_costFrom_20 : decode cX4_costFrom 20 = .ok (.aload_n 0, 1) := by decide +kernel
theorem dX4_costFrom_21 : decode cX4_costFrom 21 = .ok (.getfield 23, 3) := by decide +kernel
theorem dX4_costFrom_24 : decode cX4_costFrom 24 = .ok (.iload_n 1, 1) := by decide +kernel
theorem dX4_costFrom_25 : decode cX4_costFrom 25 = .ok (.iaload, 1) := by decide +kernel
theorem dX4_costFrom_26 : decode cX4_costFrom 26 = .ok (.ireturn, 1) := by decide +kernel
theorem dX4_setCost_0 : decode cX4_setCost 0 = .ok (.iload_n 1, 1) := by decide +kernel
theorem dX4_setCost_1 : decode cX4_setCost 1 = .ok (.iconst 0, 1) := by decide +kernel
theorem dX4_setCost_2 : decode cX4_setCost 2 = .ok (.aload_n 0, 1) := by decide +kernel
theorem dX4_setCost_3 : decode cX4_setCost 3 = .ok (.getfield 23, 3) := by decide +kernel
theorem dX4_setCost_6 : decode cX4_setCost 6 = .ok (.arraylength, 1) := by decide +kernel
theorem dX4_setCost_7 : decode cX4_setCost 7 = .ok (.iconst 1, 1) := by decide +kernel
theorem dX4_setCost_8 : decode cX4_setCost 8 = .ok (.isub, 1) := by decide +kernel
theorem dX4_setCost_9 : decode cX4_setCost 9 = .ok (.invokestatic 41, 3) := by decide +kernel
theorem dX4_setCost_12 : decode cX4_setCost 12 = .ok (.ifCond .ne 10, 3) := by decide +kernel
theorem dX4_setCost_15 : decode cX4_setCost 15 = .ok (.aload_n 0, 1) := by decide +kernel
theorem dX4_setCost_16 : decode cX4_setCost 16 = .ok (.getfield 23, 3) := by decide +kernel
theorem dX4_setCost_19 : decode cX4_setCost 19 = .ok (.iload_n 1, 1) := by decide +kernel
theorem dX4_setCost_20 : decode cX4_setCost 20 = .ok (.iload_n 2, 1) := by decide +kernel
theorem dX4_setCost_21 : decode cX4_setCost 21 = .ok (.iastore, 1) := by decide +kernel
theorem dX4_setCost_22 : decode cX4_setCost 22 = .ok (.return_, 1) := by decide +kernel
theorem dX4_nextCable_0 : decode cX4_nextCable 0 = .ok (.aload_n 0, 1) := by decide +kernel
theorem dX4_nextCable_1 : decode cX4_nextCable 1 = .ok (.iload_n 1, 1) := by decide +kernel
theorem dX4_nextCable_2 : decode cX4_nextCable 2 = .ok (.invokevirtual 97, 3) := by decide +kernel
theorem dX4_nextCable_5 : decode cX4_nextCable 5 = .ok (.istore_n 2, 1) := by decide +kernel
theorem dX4_nextCable_6 : decode cX4_nextCable 6 = .ok (.iconst 0, 1) := by decide +kernel
theorem dX4_nextCable_7 : decode cX4_nextCable 7 = .ok (.istore_n 3, 1) := by decide +kernel
theorem dX4_nextCable_8 : decode cX4_nextCable 8 = .ok (.iload_n 3, 1) := by decide +kernel
theorem dX4_nextCable_9 : decode cX4_nextCable 9 = .ok (.aload_n 0, 1) := by decide +kernel
theorem dX4_nextCable_10 : decode cX4_nextCable 10 = .ok (.getfield 34, 3) := by decide +kernel
theorem dX4_nextCable_13 : decode cX4_nextCable 13 = .ok (.if_icmp .ge 66, 3) := by decide +kernel
theorem dX4_nextCable_16 : decode cX4_nextCable 16 = .ok (.iload_n 2, 1) := by decide +kernel
theorem dX4_nextCable_17 : decode cX4_nextCable 17 = .ok (.ldc 76, 2) := by decide +kernel
theorem dX4_nextCable_19 : decode cX4_nextCable 19 = .ok (.if_icmp .ge 60, 3) := by decide +kernel
theorem dX4_nextCable_22 : decode cX4_nextCable 22 = .ok (.aload_n 0, 1) := by decide +kernel
theorem dX4_nextCable_23 : decode cX4_nextCable 23 = .ok (.iload_n 3, 1) := by decide +kernel
theorem dX4_nextCable_24 : decode cX4_nextCable 24 = .ok (.invokevirtual 48, 3) := by decide +kernel
theorem dX4_nextCable_27 : decode cX4_nextCable 27 = .ok (.astore 4, 2) := by decide +kernel
theorem dX4_nextCable_29 : decode cX4_nextCable 29 = .ok (.aload 4, 2) := by decide +kernel
theorem dX4_nextCable_31 : decode cX4_nextCable 31 = .ok (.ifnull 42, 3) := by decide +kernel
theorem dX4_nextCable_34 : decode cX4_nextCable 34 = .ok (.aload 4, 2) := by decide +kernel
theorem dX4_nextCable_36 : decode cX4_nextCable 36 = .ok (.getfield 52, 3) := by decide +kernel
theorem dX4_nextCable_39 : decode cX4_nextCable 39 = .ok (.ifCond .ne 34, 3) := by decide +kernel
theorem dX4_nextCable_42 : decode cX4_nextCable 42 = .ok (.aload 4, 2) := by decide +kernel
theorem dX4_nextCable_44 : decode cX4_nextCable 44 = .ok (.iload_n 1, 1) := by decide +kernel
theorem dX4_nextCable_45 : decode cX4_nextCable 45 = .ok (.invokevirtual 104, 3) := by decide +kernel
theorem dX4_nextCable_48 : decode cX4_nextCable 48 = .ok (.ifCond .eq 25, 3) := by decide +kernel
theorem dX4_nextCable_51 : decode cX4_nextCable 51 = .ok (.aload_n 0, 1) := by decide +kernel
theorem dX4_nextCable_52 : decode cX4_nextCable 52 = .ok (.aload 4, 2) := by decide +kernel
theorem dX4_nextCable_54 : decode cX4_nextCable 54 = .ok (.iload_n 1, 1) := by decide +kernel
theorem dX4_nextCable_55 : decode cX4_nextCable 55 = .ok (.invokevirtual 70, 3) := by decide +kernel
theorem dX4_nextCable_58 : decode cX4_nextCable 58 = .ok (.invokevirtual 97, 3) := by decide +kernel
theorem dX4_nextCable_61 : decode cX4_nextCable 61 = .ok (.aload 4, 2) := by decide +kernel
theorem dX4_nextCable_63 : decode cX4_nextCable 63 = .ok (.invokestatic 100, 3) := by decide +kernel
theorem dX4_nextCable_66 : decode cX4_nextCable 66 = .ok (.iadd, 1) := by decide +kernel
theorem dX4_nextCable_67 : decode cX4_nextCable 67 = .ok (.iload_n 2, 1) := by decide +kernel
theorem dX4_nextCable_68 : decode cX4_nextCable 68 = .ok (.if_icmp .ne 5, 3) := by decide +kernel
theorem dX4_nextCable_71 : decode cX4_nextCable 71 = .ok (.iload_n 3, 1) := by decide +kernel
theorem dX4_nextCable_72 : decode cX4_nextCable 72 = .ok (.ireturn, 1) := by decide +kernel
theorem dX4_nextCable_73 : decode cX4_nextCable 73 = .ok (.iinc 3 1, 3) := by decide +kernel
theorem dX4_nextCable_76 : decode cX4_nextCable 76 = .ok (.goto (-68), 3) := by decide +kernel
theorem dX4_nextCable_79 : decode cX4_nextCable 79 = .ok (.iconst (-1), 1) := by decide +kernel
theorem dX4_nextCable_80 : decode cX4_nextCable 80 = .ok (.ireturn, 1) := by decide +kernel
theorem dX4_routeRow_0 : decode cX4_routeRow 0 = .ok (.aload_n 0, 1) := by decide +kernel
theorem dX4_routeRow_1 : decode cX4_routeRow 1 = .ok (.getfield 27, 3) := by decide +kernel
theorem dX4_routeRow_4 : decode cX4_routeRow 4 = .ok (.iconst 0, 1) := by decide +kernel
theorem dX4_routeRow_5 : decode cX4_routeRow 5 = .ok (.aload_n 0, 1) := by decide +kernel
theorem dX4_routeRow_6 : decode cX4_routeRow 6 = .ok (.getfield 37, 3) := by decide +kernel
theorem dX4_routeRow_9 : decode cX4_routeRow 9 = .ok (.aload_n 0, 1) := by decide +kernel
theorem dX4_routeRow_10 : decode cX4_routeRow 10 = .ok (.getfield 27, 3) := by decide +kernel
theorem dX4_routeRow_13 : decode cX4_routeRow 13 = .ok (.arraylength, 1) := by decide +kernel
theorem dX4_routeRow_14 : decode cX4_routeRow 14 = .ok (.invokestatic 108, 3) := by decide +kernel
theorem dX4_routeRow_17 : decode cX4_routeRow 17 = .ok (.invokestatic 114, 3) := by decide +kernel
theorem dX4_routeRow_20 : decode cX4_routeRow 20 = .ok (.invokestatic 117, 3) := by decide +kernel
theorem dX4_routeRow_23 : decode cX4_routeRow 23 = .ok (.areturn, 1) := by decide +kernel
theorem dX4_routeRate_0 : decode cX4_routeRate 0 = .ok (.iconst 0, 1) := by decide +kernel
theorem dX4_routeRate_1 : decode cX4_routeRate 1 = .ok (.istore_n 1, 1) := by decide +kernel
theorem dX4_routeRate_2 : decode cX4_routeRate 2 = .ok (.iconst 0, 1) := by decide +kernel
theorem dX4_routeRate_3 : decode cX4_routeRate 3 = .ok (.istore_n 2, 1) := by decide +kernel
theorem dX4_routeRate_4 : decode cX4_routeRate 4 = .ok (.iload_n 2, 1) := by decide +kernel
theorem dX4_routeRate_5 : decode cX4_routeRate 5 = .ok (.aload_n 0, 1) := by decide +kernel
theorem dX4_routeRate_6 : decode cX4_routeRate 6 = .ok (.getfield 37, 3) := by decide +kernel
theorem dX4_routeRate_9 : decode cX4_routeRate 9 = .ok (.if_icmp .ge 44, 3) := by decide +kernel
theorem dX4_routeRate_12 : decode cX4_routeRate 12 = .ok (.iload_n 2, 1) := by decide +kernel
theorem dX4_routeRate_13 : decode cX4_routeRate 13 = .ok (.aload_n 0, 1) := by decide +kernel
theorem dX4_routeRate_14 : decode cX4_routeRate 14 = .ok (.getfield 27, 3) := by decide +kernel
theorem dX4_routeRate_17 : decode cX4_routeRate 17 = .ok (.arraylength, 1) := by decide +kernel
theorem dX4_routeRate_18 : decode cX4_routeRate 18 = .ok (.if_icmp .ge 35, 3) := by decide +kernel
theorem dX4_routeRate_21 : decode cX4_routeRate 21 = .ok (.aload_n 0, 1) := by decide +kernel
theorem dX4_routeRate_22 : decode cX4_routeRate 22 = .ok (.aload_n 0, 1) := by decide +kernel
theorem dX4_routeRate_23 : decode cX4_routeRate 23 = .ok (.getfield 27, 3) := by decide +kernel
theorem dX4_routeRate_26 : decode cX4_routeRate 26 = .ok (.iload_n 2, 1) := by decide +kernel
theorem dX4_routeRate_27 : decode cX4_routeRate 27 = .ok (.iaload, 1) := by decide +kernel
theorem dX4_routeRate_28 : decode cX4_routeRate 28 = .ok (.invokevirtual 48, 3) := by decide +kernel
theorem dX4_routeRate_31 : decode cX4_routeRate 31 = .ok (.astore_n 3, 1) := by decide +kernel
theorem dX4_routeRate_32 : decode cX4_routeRate 32 = .ok (.iload_n 1, 1) := by decide +kernel
theorem dX4_routeRate_33 : decode cX4_routeRate 33 = .ok (.aload_n 3, 1) := by decide +kernel
theorem dX4_routeRate_34 : decode cX4_routeRate 34 = .ok (.ifnonnull 7, 3) := by decide +kernel
theorem dX4_routeRate_37 : decode cX4_routeRate 37 = .ok (.iconst 0, 1) := by decide +kernel
theorem dX4_routeRate_38 : decode cX4_routeRate 38 = .ok (.goto 7, 3) := by decide +kernel
theorem dX4_routeRate_41 : decode cX4_routeRate 41 = .ok (.aload_n 3, 1) := by decide +kernel
theorem dX4_routeRate_42 : decode cX4_routeRate 42 = .ok (.getfield 73, 3) := by decide +kernel
theorem dX4_routeRate_45 : decode cX4_routeRate 45 = .ok (.iadd, 1) := by decide +kernel
theorem dX4_routeRate_46 : decode cX4_routeRate 46 = .ok (.istore_n 1, 1) := by decide +kernel
theorem dX4_routeRate_47 : decode cX4_routeRate 47 = .ok (.iinc 2 1, 3) := by decide +kernel
theorem dX4_routeRate_50 : decode cX4_routeRate 50 = .ok (.goto (-46), 3) := by decide +kernel
theorem dX4_routeRate_53 : decode cX4_routeRate 53 = .ok (.iload_n 1, 1) := by decide +kernel
theorem dX4_routeRate_54 : decode cX4_routeRate 54 = .ok (.ireturn, 1) := by decide +kernel
theorem dX5_init_0 : decode cX5_init 0 = .ok (.aload_n 0, 1) := by decide +kernel
theorem dX5_init_1 : decode cX5_init 1 = .ok (.invokespecial 3, 3) := by decide +kernel
theorem dX5_init_4 : decode cX5_init 4 = .ok (.aload_n 0, 1) := by decide +kernel
theorem dX5_init_5 : decode cX5_init 5 = .ok (.bipush 13, 2) := by decide +kernel
theorem dX5_init_7 : decode cX5_init 7 = .ok (.newarray .boolean, 2) := by decide +kernel
theorem dX5_init_9 : decode cX5_init 9 = .ok (.putfield 9, 3) := by decide +kernel
theorem dX5_init_12 : decode cX5_init 12 = .ok (.aload_n 0, 1) := by decide +kernel
theorem dX5_init_13 : decode cX5_init 13 = .ok (.iconst 0, 1) := by decide +kernel
theorem dX5_init_14 : decode cX5_init 14 = .ok (.putfield 15, 3) := by decide +kernel
theorem dX5_init_17 : decode cX5_init 17 = .ok (.aload_n 0, 1) := by decide +kernel
theorem dX5_init_18 : decode cX5_init 18 = .ok (.iconst 0, 1) := by decide +kernel
theorem dX5_init_19 : decode cX5_init 19 = .ok (.putfield 19, 3) := by decide +kernel
theorem dX5_init_22 : decode cX5_init 22 = .ok (.aload_n 0, 1) := by decide +kernel
theorem dX5_init_23 : decode cX5_init 23 = .ok (.iconst 0, 1) := by decide +kernel
theorem dX5_init_24 : decode cX5_init 24 = .ok (.putfield 23, 3) := by decide +kernel
theorem dX5_init_27 : decode cX5_init 27 = .ok (.return_, 1) := by decide +kernel
theorem dX5_reserveRules_0 : decode cX5_reserveRules 0 = .ok (.iload_n 1, 1) := by decide +kernel
theorem dX5_reserveRules_1 : decode cX5_reserveRules 1 = .ok (.iconst 0, 1) := by decide +kernel
theorem dX5_reserveRules_2 : decode cX5_reserveRules 2 = .ok (.aload_n 0, 1) := by decide +kernel
theorem dX5_reserveRules_3 : decode cX5_reserveRules 3 = .ok (.getfield 9, 3) := by decide +kernel
theorem dX5_reserveRules_6 : decode cX5_reserveRules 6 = .ok (.arraylength, 1) := by decide +kernel
theorem dX5_reserveRules_7 : decode cX5_reserveRules 7 = .ok (.iconst 1, 1) := by decide +kernel
theorem dX5_reserveRules_8 : decode cX5_reserveRules 8 = .ok (.isub, 1) := by decide +kernel
theorem dX5_reserveRules_9 : decode cX5_reserveRules 9 = .ok (.invokestatic 26, 3) := by decide +kernel
theorem dX5_reserveRules_12 : decode cX5_reserveRules 12 = .ok (.ifCond .ne 10, 3) := by decide +kernel
theorem dX5_reserveRules_15 : decode cX5_reserveRules 15 = .ok (.aload_n 0, 1) := by decide +kernel
theorem dX5_reserveRules_16 : decode cX5_reserveRules 16 = .ok (.getfield 9, 3) := by decide +kernel
theorem dX5_reserveRules_19 : decode cX5_reserveRules 19 = .ok (.iload_n 1, 1) := by decide +kernel
theorem dX5_reserveRules_20 : decode cX5_reserveRules 20 = .ok (.iconst 1, 1) := by decide +kernel
theorem dX5_reserveRules_21 : decode cX5_reserveRules 21 = .ok (.bastore, 1) := by decide +kernel
theorem dX5_reserveRules_22 : decode cX5_reserveRules 22 = .ok (.return_, 1) := by decide +kernel
theorem dX5_reserves_0 : decode cX5_reserves 0 = .ok (.iload_n 1, 1) := by decide +kernel
theorem dX5_reserves_1 : decode cX5_reserves 1 = .ok (.iconst 0, 1) := by decide +kernel
theorem dX5_reserves_2 : decode cX5_reserves 2 = .ok (.aload_n 0, 1) := by decide +kernel
theorem dX5_reserves_3 : decode cX5_reserves 3 = .ok (.getfield 9, 3) := by decide +kernel
theorem dX5_reserves_6 : decode cX5_reserves 6 = .ok (.arraylength, 1) := by decide +kernel
theorem dX5_reserves_7 : decode cX5_reserves 7 = .ok (.iconst 1, 1) := by decide +kernel
theorem dX5_reserves_8 : decode cX5_reserves 8 = .ok (.isub, 1) := by decide +kernel
theorem dX5_reserves_9 : decode cX5_reserves 9 = .ok (.invokestatic 26, 3) := by decide +kernel
theorem dX5_reserves_12 : decode cX5_reserves 12 = .ok (.ifCond .ne 16, 3) := by decide +kernel
theorem dX5_reserves_15 : decode cX5_reserves 15 = .ok (.aload_n 0, 1) := by decide +kernel
theorem dX5_reserves_16 : decode cX5_reserves 16 = .ok (.getfield 9, 3) := by decide +kernel
theorem dX5_reserves_19 : decode cX5_reserves 19 = .ok (.iload_n 1, 1) := by decide +kernel
theorem dX5_reserves_20 : decode cX5_reserves 20 = .ok (.baload, 1) := by decide +kernel
theorem dX5_reserves_21 : decode cX5_reserves 21 = .ok (.ifCond .eq 7, 3) := by decide +kernel
theorem dX5_reserves_24 : decode cX5_reserves 24 = .ok (.iconst 1, 1) := by decide +kernel
theorem dX5_reserves_25 : decode cX5_reserves 25 = .ok (.goto 4, 3) := by decide +kernel
theorem dX5_reserves_28 : decode cX5_reserves 28 = .ok (.iconst 0, 1) := by decide +kernel
theorem dX5_reserves_29 : decode cX5_reserves 29 = .ok (.ireturn, 1) := by decide +kernel
theorem dX6_init_0 : decode cX6_init 0 = .ok (.aload_n 0, 1) := by decide +kernel
theorem dX6_init_1 : decode cX6_init 1 = .ok (.invokespecial 3, 3) := by decide +kernel
theorem dX6_init_4 : decode cX6_init 4 = .ok (.aload_n 0, 1) := by decide +kernel
theorem dX6_init_5 : decode cX6_init 5 = .ok (.aload_n 1, 1) := by decide +kernel
theorem dX6_init_6 : decode cX6_init 6 = .ok (.putfield 9, 3) := by decide +kernel
theorem dX6_init_9 : decode cX6_init 9 = .ok (.aload_n 0, 1) := by decide +kernel
theorem dX6_init_10 : decode cX6_init 10 = .ok (.bipush 96, 2) := by decide +kernel
theorem dX6_init_12 : decode cX6_init 12 = .ok (.newarray .int, 2) := by decide +kernel
theorem dX6_init_14 : decode cX6_init 14 = .ok (.putfield 15, 3) := by decide +kernel
theorem dX6_init_17 : decode cX6_init 17 = .ok (.aload_n 0, 1) := by decide +kernel
theorem dX6_init_18 : decode cX6_init 18 = .ok (.sipush 625, 3) := by decide +kernel
theorem dX6_init_21 : decode cX6_init 21 = .ok (.newarray .int, 2) := by decide +kernel
theorem dX6_init_23 : decode cX6_init 23 = .ok (.putfield 19, 3) := by decide +kernel
theorem dX6_init_26 : decode cX6_init 26 = .ok (.aload_n 0, 1) := by decide +kernel
theorem dX6_init_27 : decode cX6_init 27 = .ok (.bipush 24, 2) := by decide +kernel
theorem dX6_init_29 : decode cX6_init 29 = .ok (.newarray .int, 2) := by decide +kernel
theorem dX6_init_31 : decode cX6_init 31 = .ok (.putfield 22, 3) := by decide +kernel
theorem dX6_init_34 : decode cX6_init 34 = .ok (.aload_n 0, 1) := by decide +kernel
theorem dX6_init_35 : decode cX6_init 35 = .ok (.iconst 0, 1) := by decide +kernel
theorem dX6_init_36 : decode cX6_init 36 = .ok (.putfield 25, 3) := by decide +kernel
theorem dX6_init_39 : decode cX6_init 39 = .ok (.aload_n 0, 1) := by decide +kernel
theorem dX6_init_40 : decode cX6_init 40 = .ok (.iconst 0, 1) := by decide +kernel
theorem dX6_init_41 : decode cX6_init 41 = .ok (.putfield 29, 3) := by decide +kernel
theorem dX6_init_44 : decode cX6_init 44 = .ok (.aload_n 0, 1) := by decide +kernel
theorem dX6_init_45 : decode cX6_init 45 = .ok (.iconst 0, 1) := by decide +kernel
theorem dX6_init_46 : decode cX6_init 46 = .ok (.putfield 32, 3) := by decide +kernel
theorem dX6_init_49 : decode cX6_init 49 = .ok (.return_, 1) := by decide +kernel
theorem dX6_wordRow_0 : decode cX6_wordRow 0 = .ok (.aload_n 0, 1) := by decide +kernel
theorem dX6_wordRow_1 : decode cX6_wordRow 1 = .ok (.getfield 22, 3) := by decide +kernel
theorem dX6_wordRow_4 : decode cX6_wordRow 4 = .ok (.iconst 0, 1) := by decide +kernel
theorem dX6_wordRow_5 : decode cX6_wordRow 5 = .ok (.aload_n 0, 1) := by decide +kernel
theorem dX6_wordRow_6 : decode cX6_wordRow 6 = .ok (.getfield 25, 3) := by decide +kernel
theorem dX6_wordRow_9 : decode cX6_wordRow 9 = .ok (.aload_n 0, 1) := by decide +kernel
theorem dX6_wordRow_10 : decode cX6_wordRow 10 = .ok (.getfield 22, 3) := by decide +kernel
theorem dX6_wordRow_13 : decode cX6_wordRow 13 = .ok (.arraylength, 1) := by decide +kernel
theorem dX6_wordRow_14 : decode cX6_wordRow 14 = .ok (.invokestatic 35, 3) := by decide +kernel
theorem dX6_wordRow_17 : decode cX6_wordRow 17 = .ok (.invokestatic 41, 3) := by decide +kernel
theorem dX6_wordRow_20 : decode cX6_wordRow 20 = .ok (.invokestatic 44, 3) := by decide +kernel
theorem dX6_wordRow_23 : decode cX6_wordRow 23 = .ok (.areturn, 1) := by decide +kernel
theorem dX6_fill_0 : decode cX6_fill 0 = .ok (.aload_n 0, 1) := by decide +kernel
theorem dX6_fill_1 : decode cX6_fill 1 = .ok (.iconst 0, 1) := by decide +kernel
theorem dX6_fill_2 : decode cX6_fill 2 = .ok (.putfield 29, 3) := by decide +kernel
theorem dX6_fill_5 : decode cX6_fill 5 = .ok (.aload_n 0, 1) := by decide +kernel
theorem dX6_fill_6 : decode cX6_fill 6 = .ok (.aload_n 0, 1) := by decide +kernel
theorem dX6_fill_7 : decode cX6_fill 7 = .ok (.aload_n 1, 1) := by decide +kernel
theorem dX6_fill_8 : decode cX6_fill 8 = .ok (.aload_n 3, 1) := by decide +kernel
theorem dX6_fill_9 : decode cX6_fill 9 = .ok (.invokevirtual 50, 3) := by decide +kernel
theorem dX6_fill_12 : decode cX6_fill 12 = .ok (.putfield 32, 3) := by decide +kernel
theorem dX6_fill_15 : decode cX6_fill 15 = .ok (.iload 4, 2) := by decide +kernel
theorem dX6_fill_17 : decode cX6_fill 17 = .ok (.ifCond .eq 22, 3) := by decide +kernel
theorem dX6_fill_20 : decode cX6_fill 20 = .ok (.aload_n 0, 1) := by decide +kernel
theorem dX6_fill_21 : decode cX6_fill 21 = .ok (.aload_n 1, 1) := by decide +kernel
theorem dX6_fill_22 : decode cX6_fill 22 = .ok (.iload_n 2, 1) := by decide +kernel
theorem dX6_fill_23 : decode cX6_fill 23 = .ok (.aload_n 3, 1) := by decide +kernel
theorem dX6_fill_24 : decode cX6_fill 24 = .ok (.invokevirtual 54, 3) := by decide +kernel
theorem dX6_fill_27 : decode cX6_fill 27 = .ok (.aload_n 0, 1) := by decide +kernel
theorem dX6_fill_28 : decode cX6_fill 28 = .ok (.aload_n 1, 1) := by decide +kernel
theorem dX6_fill_29 : decode cX6_fill 29 = .ok (.aload_n 3, 1) := by decide +kernel
theorem dX6_fill_30 : decode cX6_fill 30 = .ok (.invokevirtual 58, 3) := by decide +kernel
theorem dX6_fill_33 : decode cX6_fill 33 = .ok (.aload_n 0, 1) := by decide +kernel
theorem dX6_fill_34 : decode cX6_fill 34 = .ok (.aload_n 1, 1) := by decide +kernel
theorem dX6_fill_35 : decode cX6_fill 35 = .ok (.aload_n 3, 1) := by decide +kernel
theorem dX6_fill_36 : decode cX6_fill 36 = .ok (.invokevirtual 62, 3) := by decide +kernel
theorem dX6_fill_39 : decode cX6_fill 39 = .ok (.aload_n 0, 1) := by decide +kernel
theorem dX6_fill_40 : decode cX6_fill 40 = .ok (.aload_n 1, 1) := by decide +kernel
theorem dX6_fill_41 : decode cX6_fill 41 = .ok (.aload_n 3, 1) := by decide +kernel
theorem dX6_fill_42 : decode cX6_fill 42 = .ok (.invokevirtual 65, 3) := by decide +kernel
theorem dX6_fill_45 : decode cX6_fill 45 = .ok (.return_, 1) := by decide +kernel
theorem dX6_plainCost_0 : decode cX6_plainCost 0 = .ok (.iconst 0, 1) := by decide +kernel
theorem dX6_plainCost_1 : decode cX6_plainCost 1 = .ok (.istore_n 3, 1) := by decide +kernel
theorem dX6_plainCost_2 : decode cX6_plainCost 2 = .ok (.iconst 0, 1) := by decide +kernel
theorem dX6_plainCost_3 : decode cX6_plainCost 3 = .ok (.istore 4, 2) := by decide +kernel
theorem dX6_plainCost_5 : decode cX6_plainCost 5 = .ok (.iload 4, 2) := by decide +kernel
theorem dX6_plainCost_7 : decode cX6_plainCost 7 = .ok (.aload_n 1, 1) := by decide +kernel
theorem dX6_plainCost_8 : decode cX6_plainCost 8 = .ok (.getfield 68, 3) := by decide +kernel
theorem dX6_plainCost_11 : decode cX6_plainCost 11 = .ok (.if_icmp .ge 32, 3) := by decide +kernel
theorem dX6_plainCost_14 : decode cX6_plainCost 14 = .ok (.iload_n 3, 1) := by decide +kernel
theorem dX6_plainCost_15 : decode cX6_plainCost 15 = .ok (.aload_n 0, 1) := by decide +kernel
theorem dX6_plainCost_16 : decode cX6_plainCost 16 = .ok (.getfield 9, 3) := by decide +kernel
theorem dX6_plainCost_19 : decode cX6_plainCost 19 = .ok (.aload_n 1, 1) := by decide +kernel
theorem dX6_plainCost_20 : decode cX6_plainCost 20 = .ok (.iload 4, 2) := by decide +kernel
theorem dX6_plainCost_22 : decode cX6_plainCost 22 = .ok (.invokevirtual 73, 3) := by decide +kernel
theorem dX6_plainCost_25 : decode cX6_plainCost 25 = .ok (.invokevirtual 77, 3) := by decide +kernel
theorem dX6_plainCost_28 : decode cX6_plainCost 28 = .ok (.aload_n 2, 1) := by decide +kernel
theorem dX6_plainCost_29 : decode cX6_plainCost 29 = .ok (.getfield 82, 3) := by decide +kernel
theorem dX6_plainCost_32 : decode cX6_plainCost 32 = .ok (.invokestatic 87, 3) := by decide +kernel
theorem dX6_plainCost_35 : decode cX6_plainCost 35 = .ok (.iadd, 1) := by decide +kernel
theorem dX6_plainCost_36 : decode cX6_plainCost 36 = .ok (.istore_n 3, 1) := by decide +kernel
theorem dX6_plainCost_37 : decode cX6_plainCost 37 = .ok (.iinc 4 1, 3) := by decide +kernel
theorem dX6_plainCost_40 : decode cX6_plainCost 40 = .ok (.goto (-35), 3) := by decide +kernel
theorem dX6_plainCost_43 : decode cX6_plainCost 43 = .ok (.iload_n 3, 1) := by decide +kernel
theorem dX6_plainCost_44 : decode cX6_plainCost 44 = .ok (.ireturn, 1) := by decide +kernel
theorem dX6_findCodes_0 : decode cX6_findCodes 0 = .ok (.aload_n 0, 1) := by decide +kernel
theorem dX6_findCodes_1 : decode cX6_findCodes 1 = .ok (.getfield 15, 3) := by decide +kernel
theorem dX6_findCodes_4 : decode cX6_findCodes 4 = .ok (.iconst (-1), 1) := by decide +kernel
theorem dX6_findCodes_5 : decode cX6_findCodes 5 = .ok (.invokestatic 90, 3) := by decide +kernel
theorem dX6_findCodes_8 : decode cX6_findCodes 8 = .ok (.iconst 0, 1) := by decide +kernel
theorem dX6_findCodes_9 : decode cX6_findCodes 9 = .ok (.istore 4, 2) := by decide +kernel
theorem dX6_findCodes_11 : decode cX6_findCodes 11 = .ok (.iload 4, 2) := by decide +kernel
theorem dX6_findCodes_13 : decode cX6_findCodes 13 = .ok (.aload_n 1, 1) := by decide +kernel
theorem dX6_findCodes_14 : decode cX6_findCodes 14 = .ok (.getfield 68, 3) := by decide +kernel
theorem dX6_findCodes_17 : decode cX6_findCodes 17 = .ok (.if_icmp .ge 113, 3) := by decide +kernel
theorem dX6_findCodes_20 : decode cX6_findCodes 20 = .ok (.iconst 1, 1) := by decide +kernel
theorem dX6_findCodes_21 : decode cX6_findCodes 21 = .ok (.istore 5, 2) := by decide +kernel
theorem dX6_findCodes_23 : decode cX6_findCodes 23 = .ok (.iload 5, 2) := by decide +kernel
theorem dX6_findCodes_25 : decode cX6_findCodes 25 = .ok (.iconst 4, 1) := by decide +kernel
theorem dX6_findCodes_26 : decode cX6_findCodes 26 = .ok (.if_icmp .gt 98, 3) := by decide +kernel
theorem dX6_findCodes_29 : decode cX6_findCodes 29 = .ok (.iload 4, 2) := by decide +kernel
theorem dX6_findCodes_31 : decode cX6_findCodes 31 = .ok (.iload 5, 2) := by decide +kernel
theorem dX6_findCodes_33 : decode cX6_findCodes 33 = .ok (.iadd, 1) := by decide +kernel
theorem dX6_findCodes_34 : decode cX6_findCodes 34 = .ok (.aload_n 1, 1) := by decide +kernel
theorem dX6_findCodes_35 : decode cX6_findCodes 35 = .ok (.getfield 68, 3) := by decide +kernel
theorem dX6_findCodes_38 : decode cX6_findCodes 38 = .ok (.if_icmp .gt 86, 3) := by decide +kernel
theorem dX6_findCodes_41 : decode cX6_findCodes 41 = .ok (.aload_n 0, 1) := by decide +kernel
theorem dX6_findCodes_42 : decode cX6_findCodes 42 = .ok (.getfield 9, 3) := by decide +kernel
theorem dX6_findCodes_45 : decode cX6_findCodes 45 = .ok (.aload_n 0, 1) := by decide +kernel
theorem dX6_findCodes_46 : decode cX6_findCodes 46 = .ok (.getfield 9, 3) := by decide +kernel
theorem dX6_findCodes_49 : decode cX6_findCodes 49 = .ok (.aload_n 0, 1) := by decide +kernel
theorem dX6_findCodes_50 : decode cX6_findCodes 50 = .ok (.getfield 9, 3) := by decide +kernel
theorem dX6_findCodes_53 : decode cX6_findCodes 53 = .ok (.aload_n 1, 1) := by decide +kernel
theorem dX6_findCodes_54 : decode cX6_findCodes 54 = .ok (.iload 4, 2) := by decide +kernel
theorem dX6_findCodes_56 : decode cX6_findCodes 56 = .ok (.iload 5, 2) := by decide +kernel
theorem dX6_findCodes_58 : decode cX6_findCodes 58 = .ok (.invokevirtual 94, 3) := by decide +kernel
theorem dX6_findCodes_61 : decode cX6_findCodes 61 = .ok (.iload_n 2, 1) := by decide +kernel
theorem dX6_findCodes_62 : decode cX6_findCodes 62 = .ok (.invokevirtual 98, 3) := by decide +kernel
theorem dX6_findCodes_65 : decode cX6_findCodes 65 = .ok (.invokevirtual 101, 3) := by decide +kernel
theorem dX6_findCodes_68 : decode cX6_findCodes 68 = .ok (.istore 6, 2) := by decide +kernel
theorem dX6_findCodes_70 : decode cX6_findCodes 70 = .ok (.iload 4, 2) := by decide +kernel
theorem dX6_findCodes_72 : decode cX6_findCodes 72 = .ok (.iconst 4, 1) := by decide +kernel
theorem dX6_findCodes_73 : decode cX6_findCodes 73 = .ok (.imul, 1) := by decide +kernel
theorem dX6_findCodes_74 : decode cX6_findCodes 74 = .ok (.iload 5, 2) := by decide +kernel
theorem dX6_findCodes_76 : decode cX6_findCodes 76 = .ok (.iadd, 1) := by decide +kernel
theorem dX6_findCodes_77 : decode cX6_findCodes 77 = .ok (.iconst 1, 1) := by decide +kernel
theorem dX6_findCodes_78 : decode cX6_findCodes 78 = .ok (.isub, 1) := by decide +kernel
theorem dX6_findCodes_79 : decode cX6_findCodes 79 = .ok (.istore 7, 2) := by decide +kernel
theorem dX6_findCodes_81 : decode cX6_findCodes 81 = .ok (.iload 6, 2) := by decide +kernel
theorem dX6_findCodes_83 : decode cX6_findCodes 83 = .ok (.iconst (-1), 1) := by decide +kernel
theorem dX6_findCodes_84 : decode cX6_findCodes 84 = .ok (.if_icmp .eq 34, 3) := by decide +kernel
theorem dX6_findCodes_87 : decode cX6_findCodes 87 = .ok (.iload 6, 2) := by decide +kernel
theorem dX6_findCodes_89 : decode cX6_findCodes 89 = .ok (.invokestatic 104, 3) := by decide +kernel
theorem dX6_findCodes_92 : decode cX6_findCodes 92 = .ok (.aload_n 3, 1) := by decide +kernel
theorem dX6_findCodes_93 : decode cX6_findCodes 93 = .ok (.getfield 107, 3) := by decide +kernel
theorem dX6_findCodes_96 : decode cX6_findCodes 96 = .ok (.if_icmp .lt 22, 3) := by decide +kernel
theorem dX6_findCodes_99 : decode cX6_findCodes 99 = .ok (.iload 7, 2) := by decide +kernel
theorem dX6_findCodes_101 : decode cX6_findCodes 101 = .ok (.aload_n 0, 1) := by decide +kernel
theorem dX6_findCodes_102 : decode cX6_findCodes 102 = .ok (.getfield 15, 3) := by decide +kernel
theorem dX6_findCodes_105 : decode cX6_findCodes 105 = .ok (.arraylength, 1) := by decide +kernel
theorem dX6_findCodes_106 : decode cX6_findCodes 106 = .ok (.if_icmp .ge 12, 3) := by decide +kernel
theorem dX6_findCodes_109 : decode cX6_findCodes 109 = .ok (.aload_n 0, 1) := by decide +kernel
theorem dX6_findCodes_110 : decode cX6_findCodes 110 = .ok (.getfield 15, 3) := by decide +kernel
theorem dX6_findCodes_113 : decode cX6_findCodes 113 = .ok (.iload 7, 2) := by decide +kernel
theorem dX6_findCodes_115 : decode cX6_findCodes 115 = .ok (.iload 6, 2) := by decide +kernel
theorem dX6_findCodes_117 : decode cX6_findCodes 117 = .ok (.iastore, 1) := by decide +kernel
theorem dX6_findCodes_118 : decode cX6_findCodes 118 = .ok (.iinc 5 1, 3) := by decide +kernel
theorem dX6_findCodes_121 : decode cX6_findCodes 121 = .ok (.goto (-98), 3) := by decide +kernel
theorem dX6_findCodes_124 : decode cX6_findCodes 124 = .ok (.iinc 4 1, 3) := by decide +kernel
theorem dX6_findCodes_127 : decode cX6_findCodes 127 = .ok (.goto (-116), 3) := by decide +kernel
theorem dX6_findCodes_130 : decode cX6_findCodes 130 = .ok (.return_, 1) := by decide +kernel
theorem dX6_codeFor_0 : decode cX6_codeFor 0 = .ok (.iload_n 1, 1) := by decide +kernel
theorem dX6_codeFor_1 : decode cX6_codeFor 1 = .ok (.iconst 4, 1) := by decide +kernel
theorem dX6_codeFor_2 : decode cX6_codeFor 2 = .ok (.imul, 1) := by decide +kernel
theorem dX6_codeFor_3 : decode cX6_codeFor 3 = .ok (.iload_n 2, 1) := by decide +kernel
theorem dX6_codeFor_4 : decode cX6_codeFor 4 = .ok (.iadd, 1) := by decide +kernel
theorem dX6_codeFor_5 : decode cX6_codeFor 5 = .ok (.iconst 1, 1) := by decide +kernel
theorem dX6_codeFor_6 : decode cX6_codeFor 6 = .ok (.isub, 1) := by decide +kernel
theorem dX6_codeFor_7 : decode cX6_codeFor 7 = .ok (.istore_n 3, 1) := by decide +kernel
theorem dX6_codeFor_8 : decode cX6_codeFor 8 = .ok (.iload_n 3, 1) := by decide +kernel
theorem dX6_codeFor_9 : decode cX6_codeFor 9 = .ok (.iconst 0, 1) := by decide +kernel
theorem dX6_codeFor_10 : decode cX6_codeFor 10 = .ok (.aload_n 0, 1) := by decide +kernel
theorem dX6_codeFor_11 : decode cX6_codeFor 11 = .ok (.getfield 15, 3) := by decide +kernel
theorem dX6_codeFor_14 : decode cX6_codeFor 14 = .ok (.arraylength, 1) := by decide +kernel
theorem dX6_codeFor_15 : decode cX6_codeFor 15 = .ok (.iconst 1, 1) := by decide +kernel
theorem dX6_codeFor_16 : decode cX6_codeFor 16 = .ok (.isub, 1) := by decide +kernel
theorem dX6_codeFor_17 : decode cX6_codeFor 17 = .ok (.invokestatic 110, 3) := by decide +kernel
theorem dX6_codeFor_20 : decode cX6_codeFor 20 = .ok (.ifCond .eq 7, 3) := by decide +kernel
theorem dX6_codeFor_23 : decode cX6_codeFor 23 = .ok (.iconst (-1), 1) := by decide +kernel
theorem dX6_codeFor_24 : decode cX6_codeFor 24 = .ok (.goto 9, 3) := by decide +kernel
theorem dX6_codeFor_27 : decode cX6_codeFor 27 = .ok (.aload_n 0, 1) := by decide +kernel
theorem dX6_codeFor_28 : decode cX6_codeFor 28 = .ok (.getfield 15, 3) := by decide +kernel
theorem dX6_codeFor_31 : decode cX6_codeFor 31 = .ok (.iload_n 3, 1) := by decide +kernel
theorem dX6_codeFor_32 : decode cX6_codeFor 32 = .ok (.iaload, 1) := by decide +kernel
theorem dX6_codeFor_33 : decode cX6_codeFor 33 = .ok (.ireturn, 1) := by decide +kernel
theorem dX6_findLeast_0 : decode cX6_findLeast 0 = .ok (.aload_n 0, 1) := by decide +kernel
theorem dX6_findLeast_1 : decode cX6_findLeast 1 = .ok (.getfield 19, 3) := by decide +kernel
theorem dX6_findLeast_4 : decode cX6_findLeast 4 = .ok (.ldc 114, 2) := by decide +kernel
theorem dX6_findLeast_6 : decode cX6_findLeast 6 = .ok (.invokestatic 90, 3) := by decide +kernel
theorem dX6_findLeast_9 : decode cX6_findLeast 9 = .ok (.aload_n 0, 1) := by decide +kernel
theorem dX6_findLeast_10 : decode cX6_findLeast 10 = .ok (.aload_n 1, 1) := by decide +kernel
theorem dX6_findLeast_11 : decode cX6_findLeast 11 = .ok (.getfield 68, 3) := by decide +kernel
theorem dX6_findLeast_14 : decode cX6_findLeast 14 = .ok (.iconst 0, 1) := by decide +kernel
theorem dX6_findLeast_15 : decode cX6_findLeast 15 = .ok (.iconst 0, 1) := by decide +kernel
theorem dX6_findLeast_16 : decode cX6_findLeast 16 = .ok (.invokevirtual 115, 3) := by decide +kernel
theorem dX6_findLeast_19 : decode cX6_findLeast 19 = .ok (.aload_n 1, 1) := by decide +kernel
theorem dX6_findLeast_20 : decode cX6_findLeast 20 = .ok (.getfield 68, 3) := by decide +kernel
theorem dX6_findLeast_23 : decode cX6_findLeast 23 = .ok (.iconst 1, 1) := by decide +kernel
theorem dX6_findLeast_24 : decode cX6_findLeast 24 = .ok (.isub, 1) := by decide +kernel
theorem dX6_findLeast_25 : decode cX6_findLeast 25 = .ok (.istore_n 3, 1) := by decide +kernel
theorem dX6_findLeast_26 : decode cX6_findLeast 26 = .ok (.iload_n 3, 1) := by decide +kernel
theorem dX6_findLeast_27 : decode cX6_findLeast 27 = .ok (.ifCond .lt 123, 3) := by decide +kernel
theorem dX6_findLeast_30 : decode cX6_findLeast 30 = .ok (.aload_n 0, 1) := by decide +kernel
theorem dX6_findLeast_31 : decode cX6_findLeast 31 = .ok (.getfield 9, 3) := by decide +kernel
theorem dX6_findLeast_34 : decode cX6_findLeast 34 = .ok (.aload_n 1, 1) := by decide +kernel
theorem dX6_findLeast_35 : decode cX6_findLeast 35 = .ok (.iload_n 3, 1) := by decide +kernel
theorem dX6_findLeast_36 : decode cX6_findLeast 36 = .ok (.invokevirtual 73, 3) := by decide +kernel
theorem dX6_findLeast_39 : decode cX6_findLeast 39 = .ok (.invokevirtual 77, 3) := by decide +kernel
theorem dX6_findLeast_42 : decode cX6_findLeast 42 = .ok (.aload_n 2, 1) := by decide +kernel
theorem dX6_findLeast_43 : decode cX6_findLeast 43 = .ok (.getfield 119, 3) := by decide +kernel
theorem dX6_findLeast_46 : decode cX6_findLeast 46 = .ok (.invokestatic 87, 3) := by decide +kernel
theorem dX6_findLeast_49 : decode cX6_findLeast 49 = .ok (.istore 4, 2) := by decide +kernel
theorem dX6_findLeast_51 : decode cX6_findLeast 51 = .ok (.iconst 0, 1) := by decide +kernel
theorem dX6_findLeast_52 : decode cX6_findLeast 52 = .ok (.istore 5, 2) := by decide +kernel
theorem dX6_findLeast_54 : decode cX6_findLeast 54 = .ok (.iload 5, 2) := by decide +kernel
theorem dX6_findLeast_56 : decode cX6_findLeast 56 = .ok (.aload_n 1, 1) := by decide +kernel
theorem dX6_findLeast_57 : decode cX6_findLeast 57 = .ok (.getfield 68, 3) := by decide +kernel
theorem dX6_findLeast_60 : decode cX6_findLeast 60 = .ok (.iload_n 3, 1) := by decide +kernel
theorem dX6_findLeast_61 : decode cX6_findLeast 61 = .ok (.isub, 1) := by decide +kernel
theorem dX6_findLeast_62 : decode cX6_findLeast 62 = .ok (.if_icmp .gt 82, 3) := by decide +kernel
theorem dX6_findLeast_65 : decode cX6_findLeast 65 = .ok (.aload_n 0, 1) := by decide +kernel
theorem dX6_findLeast_66 : decode cX6_findLeast 66 = .ok (.iload_n 3, 1) := by decide +kernel
theorem dX6_findLeast_67 : decode cX6_findLeast 67 = .ok (.iconst 1, 1) := by decide +kernel
theorem dX6_findLeast_68 : decode cX6_findLeast 68 = .ok (.iadd, 1) := by decide +kernel
theorem dX6_findLeast_69 : decode cX6_findLeast 69 = .ok (.iload 5, 2) := by decide +kernel
theorem dX6_findLeast_71 : decode cX6_findLeast 71 = .ok (.invokevirtual 122, 3) := by decide +kernel
theorem dX6_findLeast_74 : decode cX6_findLeast 74 = .ok (.iload 4, 2) := by decide +kernel
theorem dX6_findLeast_76 : decode cX6_findLeast 76 = .ok (.iadd, 1) := by decide +kernel
theorem dX6_findLeast_77 : decode cX6_findLeast 77 = .ok (.istore 6, 2) := by decide +kernel
theorem dX6_findLeast_79 : decode cX6_findLeast 79 = .ok (.iconst 1, 1) := by decide +kernel
theorem dX6_findLeast_80 : decode cX6_findLeast 80 = .ok (.istore 7, 2) := by decide +kernel
theorem dX6_findLeast_82 : decode cX6_findLeast 82 = .ok (.iload 7, 2) := by decide +kernel
theorem dX6_findLeast_84 : decode cX6_findLeast 84 = .ok (.iconst 4, 1) := by decide +kernel
theorem dX6_findLeast_85 : decode cX6_findLeast 85 = .ok (.if_icmp .gt 39, 3) := by decide +kernel
theorem dX6_findLeast_88 : decode cX6_findLeast 88 = .ok (.aload_n 0, 1) := by decide +kernel
theorem dX6_findLeast_89 : decode cX6_findLeast 89 = .ok (.iload_n 3, 1) := by decide +kernel
theorem dX6_findLeast_90 : decode cX6_findLeast 90 = .ok (.iload 7, 2) := by decide +kernel
theorem dX6_findLeast_92 : decode cX6_findLeast 92 = .ok (.invokevirtual 125, 3) := by decide +kernel
theorem dX6_findLeast_95 : decode cX6_findLeast 95 = .ok (.iconst (-1), 1) := by decide +kernel
theorem dX6_findLeast_96 : decode cX6_findLeast 96 = .ok (.if_icmp .eq 22, 3) := by decide +kernel
theorem dX6_findLeast_99 : decode cX6_findLeast 99 = .ok (.iload 6, 2) := by decide +kernel
theorem dX6_findLeast_101 : decode cX6_findLeast 101 = .ok (.aload_n 0, 1) := by decide +kernel
theorem dX6_findLeast_102 : decode cX6_findLeast 102 = .ok (.iload_n 3, 1) := by decide +kernel
theorem dX6_findLeast_103 : decode cX6_findLeast 103 = .ok (.iload 7, 2) := by decide +kernel
theorem dX6_findLeast_105 : decode cX6_findLeast 105 = .ok (.iadd, 1) := by decide +kernel
theorem dX6_findLeast_106 : decode cX6_findLeast 106 = .ok (.iload 5, 2) := by decide +kernel
theorem dX6_findLeast_108 : decode cX6_findLeast 108 = .ok (.iconst 1, 1) := by decide +kernel
theorem dX6_findLeast_109 : decode cX6_findLeast 109 = .ok (.isub, 1) := by decide +kernel
theorem dX6_findLeast_110 : decode cX6_findLeast 110 = .ok (.invokevirtual 122, 3) := by decide +kernel
theorem dX6_findLeast_113 : decode cX6_findLeast 113 = .ok (.invokestatic 35, 3) := by decide +kernel
theorem dX6_findLeast_116 : decode cX6_findLeast 116 = .ok (.istore 6, 2) := by decide +kernel
theorem dX6_findLeast_118 : decode cX6_findLeast 118 = .ok (.iinc 7 1, 3) := by decide +kernel
theorem dX6_findLeast_121 : decode cX6_findLeast 121 = .ok (.goto (-39), 3) := by decide +kernel
theorem dX6_findLeast_124 : decode cX6_findLeast 124 = .ok (.aload_n 0, 1) := by decide +kernel
theorem dX6_findLeast_125 : decode cX6_findLeast 125 = .ok (.iload_n 3, 1) := by decide +kernel
theorem dX6_findLeast_126 : decode cX6_findLeast 126 = .ok (.iload 5, 2) := by decide +kernel
theorem dX6_findLeast_128 : decode cX6_findLeast 128 = .ok (.iload 6, 2) := by decide +kernel
theorem dX6_findLeast_130 : decode cX6_findLeast 130 = .ok (.ldc 114, 2) := by decide +kernel
theorem dX6_findLeast_132 : decode cX6_findLeast 132 = .ok (.invokestatic 35, 3) := by decide +kernel
theorem dX6_findLeast_135 : decode cX6_findLeast 135 = .ok (.invokevirtual 115, 3) := by decide +kernel
theorem dX6_findLeast_138 : decode cX6_findLeast 138 = .ok (.iinc 5 1, 3) := by decide +kernel
theorem dX6_findLeast_141 : decode cX6_findLeast 141 = .ok (.goto (-87), 3) := by decide +kernel
theorem dX6_findLeast_144 : decode cX6_findLeast 144 = .ok (.iinc 3 (-1), 3) := by decide +kernel
theorem dX6_findLeast_147 : decode cX6_findLeast 147 = .ok (.goto (-121), 3) := by decide +kernel
theorem dX6_findLeast_150 : decode cX6_findLeast 150 = .ok (.return_, 1) := by decide +kernel
theorem dX6_leastFrom_0 : decode cX6_leastFrom 0 = .ok (.iload_n 1, 1) := by decide +kernel
theorem dX6_leastFrom_1 : decode cX6_leastFrom 1 = .ok (.iconst 0, 1) := by decide +kernel
theorem dX6_leastFrom_2 : decode cX6_leastFrom 2 = .ok (.bipush 24, 2) := by decide +kernel
theorem dX6_leastFrom_4 : decode cX6_leastFrom 4 = .ok (.invokestatic 110, 3) := by decide +kernel
theorem dX6_leastFrom_7 : decode cX6_leastFrom 7 = .ok (.ifCond .ne 17, 3) := by decide +kernel
theorem dX6_leastFrom_10 : decode cX6_leastFrom 10 = .ok (.iload_n 2, 1) := by decide +kernel
theorem dX6_leastFrom_11 : decode cX6_leastFrom 11 = .ok (.iconst 0, 1) := by decide +kernel
theorem dX6_leastFrom_12 : decode cX6_leastFrom 12 = .ok (.bipush 24, 2) := by decide +kernel
theorem dX6_leastFrom_14 : decode cX6_leastFrom 14 = .ok (.invokestatic 110, 3) := by decide +kernel
theorem dX6_leastFrom_17 : decode cX6_leastFrom 17 = .ok (.ifCond .ne 7, 3) := by decide +kernel
theorem dX6_leastFrom_20 : decode cX6_leastFrom 20 = .ok (.iconst 1, 1) := by decide +kernel
theorem dX6_leastFrom_21 : decode cX6_leastFrom 21 = .ok (.goto 4, 3) := by decide +kernel
theorem dX6_leastFrom_24 : decode cX6_leastFrom 24 = .ok (.iconst 0, 1) := by decide +kernel
theorem dX6_leastFrom_25 : decode cX6_leastFrom 25 = .ok (.istore_n 3, 1) := by decide +kernel
theorem dX6_leastFrom_26 : decode cX6_leastFrom 26 = .ok (.iload_n 1, 1) := by decide +kernel
theorem dX6_leastFrom_27 : decode cX6_leastFrom 27 = .ok (.bipush 25, 2) := by decide +kernel
theorem dX6_leastFrom_29 : decode cX6_leastFrom 29 = .ok (.imul, 1) := by decide +kernel
theorem dX6_leastFrom_30 : decode cX6_leastFrom 30 = .ok (.iload_n 2, 1) := by decide +kernel
theorem dX6_leastFrom_31 : decode cX6_leastFrom 31 = .ok (.iadd, 1) := by decide +kernel
theorem dX6_leastFrom_32 : decode cX6_leastFrom 32 = .ok (.istore 4, 2) := by decide +kernel
theorem dX6_leastFrom_34 : decode cX6_leastFrom 34 = .ok (.iload_n 3, 1) := by decide +kernel
theorem dX6_leastFrom_35 : decode cX6_leastFrom 35 = .ok (.ifCond .eq 23, 3) := by decide +kernel
theorem dX6_leastFrom_38 : decode cX6_leastFrom 38 = .ok (.iload 4, 2) := by decide +kernel
theorem dX6_leastFrom_40 : decode cX6_leastFrom 40 = .ok (.aload_n 0, 1) := by decide +kernel
theorem dX6_leastFrom_41 : decode cX6_leastFrom 41 = .ok (.getfield 19, 3) := by decide +kernel
theorem dX6_leastFrom_44 : decode cX6_leastFrom 44 = .ok (.arraylength, 1) := by decide +kernel
theorem dX6_leastFrom_45 : decode cX6_leastFrom 45 = .ok (.if_icmp .ge 13, 3) := by decide +kernel
theorem dX6_leastFrom_48 : decode cX6_leastFrom 48 = .ok (.aload_n 0, 1) := by decide +kernel
theorem dX6_leastFrom_49 : decode cX6_leastFrom 49 = .ok (.getfield 19, 3) := by decide +kernel
theorem dX6_leastFrom_52 : decode cX6_leastFrom 52 = .ok (.iload 4, 2) := by decide +kernel
theorem dX6_leastFrom_54 : decode cX6_leastFrom 54 = .ok (.iaload, 1) := by decide +kernel
theorem dX6_leastFrom_55 : decode cX6_leastFrom 55 = .ok (.goto 5, 3) := by decide +kernel
theorem dX6_leastFrom_58 : decode cX6_leastFrom 58 = .ok (.ldc 114, 2) := by decide +kernel
theorem dX6_leastFrom_60 : decode cX6_leastFrom 60 = .ok (.ireturn, 1) := by decide +kernel
theorem dX6_setLeast_0 : decode cX6_setLeast 0 = .ok (.iload_n 1, 1) := by decide +kernel
theorem dX6_setLeast_1 : decode cX6_setLeast 1 = .ok (.bipush 25, 2) := by decide +kernel
theorem dX6_setLeast_3 : decode cX6_setLeast 3 = .ok (.imul, 1) := by decide +kernel
theorem dX6_setLeast_4 : decode cX6_setLeast 4 = .ok (.iload_n 2, 1) := by decide +kernel
theorem dX6_setLeast_5 : decode cX6_setLeast 5 = .ok (.iadd, 1) := by decide +kernel
theorem dX6_setLeast_6 : decode cX6_setLeast 6 = .ok (.istore 4, 2) := by decide +kernel
theorem dX6_setLeast_8 : decode cX6_setLeast 8 = .ok (.iload 4, 2) := by decide +kernel
theorem dX6_setLeast_10 : decode cX6_setLeast 10 = .ok (.iconst 0, 1) := by decide +kernel
theorem dX6_setLeast_11 : decode cX6_setLeast 11 = .ok (.aload_n 0, 1) := by decide +kernel
theorem dX6_setLeast_12 : decode cX6_setLeast 12 = .ok (.getfield 19, 3) := by decide +kernel
theorem dX6_setLeast_15 : decode cX6_setLeast 15 = .ok (.arraylength, 1) := by decide +kernel
theorem dX6_setLeast_16 : decode cX6_setLeast 16 = .ok (.iconst 1, 1) := by decide +kernel
theorem dX6_setLeast_17 : decode cX6_setLeast 17 = .ok (.isub, 1) := by decide +kernel
theorem dX6_setLeast_18 : decode cX6_setLeast 18 = .ok (.invokestatic 110, 3) := by decide +kernel
theorem dX6_setLeast_21 : decode cX6_setLeast 21 = .ok (.ifCond .ne 11, 3) := by decide +kernel
theorem dX6_setLeast_24 : decode cX6_setLeast 24 = .ok (.aload_n 0, 1) := by decide +kernel
theorem dX6_setLeast_25 : decode cX6_setLeast 25 = .ok (.getfield 19, 3) := by decide +kernel
theorem dX6_setLeast_28 : decode cX6_setLeast 28 = .ok (.iload 4, 2) := by decide +kernel
theorem dX6_setLeast_30 : decode cX6_setLeast 30 = .ok (.iload_n 3, 1) := by decide +kernel
theorem dX6_setLeast_31 : decode cX6_setLeast 31 = .ok (.iastore, 1) := by decide +kernel
theorem dX6_setLeast_32 : decode cX6_setLeast 32 = .ok (.return_, 1) := by decide +kernel
theorem dX6_chooseCount_0 : decode cX6_chooseCount 0 = .ok (.iconst 1, 1) := by decide +kernel
theorem dX6_chooseCount_1 : decode cX6_chooseCount 1 = .ok (.istore_n 3, 1) := by decide +kernel
theorem dX6_chooseCount_2 : decode cX6_chooseCount 2 = .ok (.iload_n 3, 1) := by decide +kernel
theorem dX6_chooseCount_3 : decode cX6_chooseCount 3 = .ok (.aload_n 1, 1) := by decide +kernel
theorem dX6_chooseCount_4 : decode cX6_chooseCount 4 = .ok (.getfield 68, 3) := by decide +kernel
theorem dX6_chooseCount_7 : decode cX6_chooseCount 7 = .ok (.if_icmp .gt 48, 3) := by decide +kernel
theorem dX6_chooseCount_10 : decode cX6_chooseCount 10 = .ok (.aload_n 0, 1) := by decide +kernel
theorem dX6_chooseCount_11 : decode cX6_chooseCount 11 = .ok (.iconst 0, 1) := by decide +kernel
theorem dX6_chooseCount_12 : decode cX6_chooseCount 12 = .ok (.iload_n 3, 1) := by decide +kernel
theorem dX6_chooseCount_13 : decode cX6_chooseCount 13 = .ok (.invokevirtual 122, 3) := by decide +kernel
theorem dX6_chooseCount_16 : decode cX6_chooseCount 16 = .ok (.iload_n 3, 1) := by decide +kernel
theorem dX6_chooseCount_17 : decode cX6_chooseCount 17 = .ok (.iconst 5, 1) := by decide +kernel
theorem dX6_chooseCount_18 : decode cX6_chooseCount 18 = .ok (.imul, 1) := by decide +kernel
theorem dX6_chooseCount_19 : decode cX6_chooseCount 19 = .ok (.aload_n 2, 1) := by decide +kernel
theorem dX6_chooseCount_20 : decode cX6_chooseCount 20 = .ok (.getfield 119, 3) := by decide +kernel
theorem dX6_chooseCount_23 : decode cX6_chooseCount 23 = .ok (.invokestatic 87, 3) := by decide +kernel
theorem dX6_chooseCount_26 : decode cX6_chooseCount 26 = .ok (.iadd, 1) := by decide +kernel
theorem dX6_chooseCount_27 : decode cX6_chooseCount 27 = .ok (.istore 4, 2) := by decide +kernel
theorem dX6_chooseCount_29 : decode cX6_chooseCount 29 = .ok (.iload 4, 2) := by decide +kernel
theorem dX6_chooseCount_31 : decode cX6_chooseCount 31 = .ok (.aload_n 0, 1) := by decide +kernel
theorem dX6_chooseCount_32 : decode cX6_chooseCount 32 = .ok (.getfield 32, 3) := by decide +kernel
theorem dX6_chooseCount_35 : decode cX6_chooseCount 35 = .ok (.if_icmp .ge 14, 3) := by decide +kernel
theorem dX6_chooseCount_38 : decode cX6_chooseCount 38 = .ok (.aload_n 0, 1) := by decide +kernel
theorem dX6_chooseCount_39 : decode cX6_chooseCount 39 = .ok (.iload 4, 2) := by decide +kernel
theorem dX6_chooseCount_41 : decode cX6_chooseCount 41 = .ok (.putfield 32, 3) := by decide +kernel
theorem dX6_chooseCount_44 : decode cX6_chooseCount 44 = .ok (.aload_n 0, 1) := by decide +kernel
theorem dX6_chooseCount_45 : decode cX6_chooseCount 45 = .ok (.iload_n 3, 1) := by decide +kernel
theorem dX6_chooseCount_46 : decode cX6_chooseCount 46 = .ok (.putfield 29, 3) := by decide +kernel
theorem dX6_chooseCount_49 : decode cX6_chooseCount 49 = .ok (.iinc 3 1, 3) := by decide +kernel
theorem dX6_chooseCount_52 : decode cX6_chooseCount 52 = .ok (.goto (-50), 3) := by decide +kernel
theorem dX6_chooseCount_55 : decode cX6_chooseCount 55 = .ok (.return_, 1) := by decide +kernel
theorem dX6_cut_0 : decode cX6_cut 0 = .ok (.aload_n 0, 1) := by decide +kernel
theorem dX6_cut_1 : decode cX6_cut 1 = .ok (.iconst 0, 1) := by decide +kernel
theorem dX6_cut_2 : decode cX6_cut 2 = .ok (.putfield 25, 3) := by decide +kernel
theorem dX6_cut_5 : decode cX6_cut 5 = .ok (.aload_n 0, 1) := by decide +kernel
theorem dX6_cut_6 : decode cX6_cut 6 = .ok (.getfield 29, 3) := by decide +kernel
theorem dX6_cut_9 : decode cX6_cut 9 = .ok (.istore_n 3, 1) := by decide +kernel
theorem dX6_cut_10 : decode cX6_cut 10 = .ok (.iconst 0, 1) := by decide +kernel
theorem dX6_cut_11 : decode cX6_cut 11 = .ok (.istore 4, 2) := by decide +kernel
theorem dX6_cut_13 : decode cX6_cut 13 = .ok (.iload 4, 2) := by decide +kernel
theorem dX6_cut_15 : decode cX6_cut 15 = .ok (.aload_n 1, 1) := by decide +kernel
theorem dX6_cut_16 : decode cX6_cut 16 = .ok (.getfield 68, 3) := by decide +kernel
theorem dX6_cut_19 : decode cX6_cut 19 = .ok (.if_icmp .ge 69, 3) := by decide +kernel
theorem dX6_cut_22 : decode cX6_cut 22 = .ok (.iload_n 3, 1) := by decide +kernel
theorem dX6_cut_23 : decode cX6_cut 23 = .ok (.ifCond .le 13, 3) := by decide +kernel
theorem dX6_cut_26 : decode cX6_cut 26 = .ok (.aload_n 0, 1) := by decide +kernel
theorem dX6_cut_27 : decode cX6_cut 27 = .ok (.iload 4, 2) := by decide +kernel
theorem dX6_cut_29 : decode cX6_cut 29 = .ok (.iload_n 3, 1) := by decide +kernel
theorem dX6_cut_30 : decode cX6_cut 30 = .ok (.invokevirtual 128, 3) := by decide +kernel
theorem dX6_cut_33 : decode cX6_cut 33 = .ok (.goto 4, 3) := by decide +kernel
theorem dX6_cut_36 : decode cX6_cut 36 = .ok (.iconst 0, 1) := by decide +kernel
theorem dX6_cut_37 : decode cX6_cut 37 = .ok (.istore 5, 2) := by decide +kernel
theorem dX6_cut_39 : decode cX6_cut 39 = .ok (.iload 5, 2) := by decide +kernel
theorem dX6_cut_41 : decode cX6_cut 41 = .ok (.ifCond .le 28, 3) := by decide +kernel
theorem dX6_cut_44 : decode cX6_cut 44 = .ok (.aload_n 0, 1) := by decide +kernel
theorem dX6_cut_45 : decode cX6_cut 45 = .ok (.aload_n 0, 1) := by decide +kernel
theorem dX6_cut_46 : decode cX6_cut 46 = .ok (.iload 4, 2) := by decide +kernel
theorem dX6_cut_48 : decode cX6_cut 48 = .ok (.iload 5, 2) := by decide +kernel
theorem dX6_cut_50 : decode cX6_cut 50 = .ok (.invokevirtual 125, 3) := by decide +kernel
theorem dX6_cut_53 : decode cX6_cut 53 = .ok (.invokevirtual 131, 3) := by decide +kernel
theorem dX6_cut_56 : decode cX6_cut 56 = .ok (.iload 4, 2) := by decide +kernel
theorem dX6_cut_58 : decode cX6_cut 58 = .ok (.iload 5, 2) := by decide +kernel
theorem dX6_cut_60 : decode cX6_cut 60 = .ok (.iadd, 1) := by decide +kernel
theorem dX6_cut_61 : decode cX6_cut 61 = .ok (.istore 4, 2) := by decide +kernel
theorem dX6_cut_63 : decode cX6_cut 63 = .ok (.iinc 3 (-1), 3) := by decide +kernel
theorem dX6_cut_66 : decode cX6_cut 66 = .ok (.goto 19, 3) := by decide +kernel
theorem dX6_cut_69 : decode cX6_cut 69 = .ok (.aload_n 0, 1) := by decide +kernel
theorem dX6_cut_70 : decode cX6_cut 70 = .ok (.aload_n 1, 1) := by decide +kernel
theorem dX6_cut_71 : decode cX6_cut 71 = .ok (.iload 4, 2) := by decide +kernel
theorem dX6_cut_73 : decode cX6_cut 73 = .ok (.invokevirtual 73, 3) := by decide +kernel
theorem dX6_cut_76 : decode cX6_cut 76 = .ok (.invokestatic 135, 3) := by decide +kernel
theorem dX6_cut_79 : decode cX6_cut 79 = .ok (.invokevirtual 131, 3) := by decide +kernel
theorem dX6_cut_82 : decode cX6_cut 82 = .ok (.iinc 4 1, 3) := by decide +kernel
theorem dX6_cut_85 : decode cX6_cut 85 = .ok (.goto (-72), 3) := by decide +kernel
theorem dX6_cut_88 : decode cX6_cut 88 = .ok (.return_, 1) := by decide +kernel
theorem dX6_longestCode_0 : decode cX6_longestCode 0 = .ok (.iconst 4, 1) := by decide +kernel
theorem dX6_longestCode_1 : decode cX6_longestCode 1 = .ok (.istore_n 3, 1) := by decide +kernel
theorem dX6_longestCode_2 : decode cX6_longestCode 2 = .ok (.iload_n 3, 1) := by decide +kernel
theorem dX6_longestCode_3 : decode cX6_longestCode 3 = .ok (.ifCond .le 40, 3) := by decide +kernel
theorem dX6_longestCode_6 : decode cX6_longestCode 6 = .ok (.aload_n 0, 1) := by decide +kernel
theorem dX6_longestCode_7 : decode cX6_longestCode 7 = .ok (.iload_n 1, 1) := by decide +kernel
theorem dX6_longestCode_8 : decode cX6_longestCode 8 = .ok (.iload_n 3, 1) := by decide +kernel
theorem dX6_longestCode_9 : decode cX6_longestCode 9 = .ok (.invokevirtual 125, 3) := by decide +kernel
theorem dX6_longestCode_12 : decode cX6_longestCode 12 = .ok (.iconst (-1), 1) := by decide +kernel
theorem dX6_longestCode_13 : decode cX6_longestCode 13 = .ok (.if_icmp .eq 24, 3) := by decide +kernel
theorem dX6_longestCode_16 : decode cX6_longestCode 16 = .ok (.aload_n 0, 1) := by decide +kernel
theorem dX6_longestCode_17 : decode cX6_longestCode 17 = .ok (.iload_n 1, 1) := by decide +kernel
theorem dX6_longestCode_18 : decode cX6_longestCode 18 = .ok (.iload_n 3, 1) := by decide +kernel
theorem dX6_longestCode_19 : decode cX6_longestCode 19 = .ok (.iadd, 1) := by decide +kernel
theorem dX6_longestCode_20 : decode cX6_longestCode 20 = .ok (.iload_n 2, 1) := by decide +kernel
theorem dX6_longestCode_21 : decode cX6_longestCode 21 = .ok (.iconst 1, 1) := by decide +kernel
theorem dX6_longestCode_22 : decode cX6_longestCode 22 = .ok (.isub, 1) := by decide +kernel
theorem dX6_longestCode_23 : decode cX6_longestCode 23 = .ok (.invokevirtual 122, 3) := by decide +kernel
theorem dX6_longestCode_26 : decode cX6_longestCode 26 = .ok (.aload_n 0, 1) := by decide +kernel
theorem dX6_longestCode_27 : decode cX6_longestCode 27 = .ok (.iload_n 1, 1) := by decide +kernel
theorem dX6_longestCode_28 : decode cX6_longestCode 28 = .ok (.iload_n 2, 1) := by decide +kernel
theorem dX6_longestCode_29 : decode cX6_longestCode 29 = .ok (.invokevirtual 122, 3) := by decide +kernel
theorem dX6_longestCode_32 : decode cX6_longestCode 32 = .ok (.if_icmp .ne 5, 3) := by decide +kernel
theorem dX6_longestCode_35 : decode cX6_longestCode 35 = .ok (.iload_n 3, 1) := by decide +kernel
theorem dX6_longestCode_36 : decode cX6_longestCode 36 = .ok (.ireturn, 1) := by decide +kernel
theorem dX6_longestCode_37 : decode cX6_longestCode 37 = .ok (.iinc 3 (-1), 3) := by decide +kernel
theorem dX6_longestCode_40 : decode cX6_longestCode 40 = .ok (.goto (-38), 3) := by decide +kernel
theorem dX6_longestCode_43 : decode cX6_longestCode 43 = .ok (.iconst 0, 1) := by decide +kernel
theorem dX6_longestCode_44 : decode cX6_longestCode 44 = .ok (.ireturn, 1) := by decide +kernel
theorem dX6_addWord_0 : decode cX6_addWord 0 = .ok (.aload_n 0, 1) := by decide +kernel
theorem dX6_addWord_1 : decode cX6_addWord 1 = .ok (.getfield 25, 3) := by decide +kernel
theorem dX6_addWord_4 : decode cX6_addWord 4 = .ok (.aload_n 0, 1) := by decide +kernel
theorem dX6_addWord_5 : decode cX6_addWord 5 = .ok (.getfield 22, 3) := by decide +kernel
theorem dX6_addWord_8 : decode cX6_addWord 8 = .ok (.arraylength, 1) := by decide +kernel
theorem dX6_addWord_9 : decode cX6_addWord 9 = .ok (.if_icmp .ge 23, 3) := by decide +kernel
theorem dX6_addWord_12 : decode cX6_addWord 12 = .ok (.aload_n 0, 1) := by decide +kernel
theorem dX6_addWord_13 : decode cX6_addWord 13 = .ok (.getfield 22, 3) := by decide +kernel
theorem dX6_addWord_16 : decode cX6_addWord 16 = .ok (.aload_n 0, 1) := by decide +kernel
theorem dX6_addWord_17 : decode cX6_addWord 17 = .ok (.getfield 25, 3) := by decide +kernel
theorem dX6_addWord_20 : decode cX6_addWord 20 = .ok (.iload_n 1, 1) := by decide +kernel
theorem dX6_addWord_21 : decode cX6_addWord 21 = .ok (.iastore, 1) := by decide +kernel
theorem dX6_addWord_22 : decode cX6_addWord 22 = .ok (.aload_n 0, 1) := by decide +kernel
theorem dX6_addWord_23 : decode cX6_addWord 23 = .ok (.dup, 1) := by decide +kernel
theorem dX6_addWord_24 : decode cX6_addWord 24 = .ok (.getfield 25, 3) := by decide +kernel
theorem dX6_addWord_27 : decode cX6_addWord 27 = .ok (.iconst 1, 1) := by decide +kernel
theorem dX6_addWord_28 : decode cX6_addWord 28 = .ok (.iadd, 1) := by decide +kernel
theorem dX6_addWord_29 : decode cX6_addWord 29 = .ok (.putfield 25, 3) := by decide +kernel
theorem dX6_addWord_32 : decode cX6_addWord 32 = .ok (.return_, 1) := by decide +kernel
theorem dX7_init_0 : decode cX7_init 0 = .ok (.aload_n 0, 1) := by decide +kernel
theorem dX7_init_1 : decode cX7_init 1 = .ok (.invokespecial 1, 3) := by decide +kernel
theorem dX7_init_4 : decode cX7_init 4 = .ok (.aload_n 0, 1) := by decide +kernel
theorem dX7_init_5 : decode cX7_init 5 = .ok (.iload_n 1, 1) := by decide +kernel
theorem dX7_init_6 : decode cX7_init 6 = .ok (.putfield 7, 3) := by decide +kernel
theorem dX7_init_9 : decode cX7_init 9 = .ok (.aload_n 0, 1) := by decide +kernel
theorem dX7_init_10 : decode cX7_init 10 = .ok (.iload_n 2, 1) := by decide +kernel
theorem dX7_init_11 : decode cX7_init 11 = .ok (.putfield 13, 3) := by decide +kernel
theorem dX7_init_14 : decode cX7_init 14 = .ok (.aload_n 0, 1) := by decide +kernel
theorem dX7_init_15 : decode cX7_init 15 = .ok (.iload_n 3, 1) := by decide +kernel
theorem dX7_init_16 : decode cX7_init 16 = .ok (.putfield 16, 3) := by decide +kernel
theorem dX7_init_19 : decode cX7_init 19 = .ok (.aload_n 0, 1) := by decide +kernel
theorem dX7_init_20 : decode cX7_init 20 = .ok (.iload 4, 2) := by decide +kernel
theorem dX7_init_22 : decode cX7_init 22 = .ok (.putfield 19, 3) := by decide +kernel
theorem dX7_init_25 : decode cX7_init 25 = .ok (.aload_n 0, 1) := by decide +kernel
theorem dX7_init_26 : decode cX7_init 26 = .ok (.iload 5, 2) := by decide +kernel
theorem dX7_init_28 : decode cX7_init 28 = .ok (.putfield 22, 3) := by decide +kernel
theorem dX7_init_31 : decode cX7_init 31 = .ok (.return_, 1) := by decide +kernel
