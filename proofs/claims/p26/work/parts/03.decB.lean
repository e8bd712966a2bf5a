theorem dX8_init_0 : decode cX8_init 0 = .ok (.aload_n 0, 1) := by decide +kernel
theorem dX8_init_1 : decode cX8_init 1 = .ok (.invokespecial 1, 3) := by decide +kernel
theorem dX8_init_4 : decode cX8_init 4 = .ok (.aload_n 0, 1) := by decide +kernel
theorem dX8_init_5 : decode cX8_init 5 = .ok (.new 7, 3) := by decide +kernel
theorem dX8_init_8 : decode cX8_init 8 = .ok (.dup, 1) := by decide +kernel
theorem dX8_init_9 : decode cX8_init 9 = .ok (.invokespecial 9, 3) := by decide +kernel
theorem dX8_init_12 : decode cX8_init 12 = .ok (.putfield 10, 3) := by decide +kernel
theorem dX8_init_15 : decode cX8_init 15 = .ok (.aload_n 0, 1) := by decide +kernel
theorem dX8_init_16 : decode cX8_init 16 = .ok (.new 16, 3) := by decide +kernel
theorem dX8_init_19 : decode cX8_init 19 = .ok (.dup, 1) := by decide +kernel
theorem dX8_init_20 : decode cX8_init 20 = .ok (.aload_n 0, 1) := by decide +kernel
theorem dX8_init_21 : decode cX8_init 21 = .ok (.getfield 10, 3) := by decide +kernel
theorem dX8_init_24 : decode cX8_init 24 = .ok (.invokespecial 18, 3) := by decide +kernel
theorem dX8_init_27 : decode cX8_init 27 = .ok (.putfield 21, 3) := by decide +kernel
theorem dX8_init_30 : decode cX8_init 30 = .ok (.aload_n 0, 1) := by decide +kernel
theorem dX8_init_31 : decode cX8_init 31 = .ok (.new 25, 3) := by decide +kernel
theorem dX8_init_34 : decode cX8_init 34 = .ok (.dup, 1) := by decide +kernel
theorem dX8_init_35 : decode cX8_init 35 = .ok (.invokespecial 27, 3) := by decide +kernel
theorem dX8_init_38 : decode cX8_init 38 = .ok (.putfield 28, 3) := by decide +kernel
theorem dX8_init_41 : decode cX8_init 41 = .ok (.aload_n 0, 1) := by decide +kernel
theorem dX8_init_42 : decode cX8_init 42 = .ok (.new 32, 3) := by decide +kernel
theorem dX8_init_45 : decode cX8_init 45 = .ok (.dup, 1) := by decide +kernel
theorem dX8_init_46 : decode cX8_init 46 = .ok (.invokespecial 34, 3) := by decide +kernel
theorem dX8_init_49 : decode cX8_init 49 = .ok (.putfield 35, 3) := by decide +kernel
theorem dX8_init_52 : decode cX8_init 52 = .ok (.aload_n 0, 1) := by decide +kernel
theorem dX8_init_53 : decode cX8_init 53 = .ok (.new 39, 3) := by decide +kernel
theorem dX8_init_56 : decode cX8_init 56 = .ok (.dup, 1) := by decide +kernel
theorem dX8_init_57 : decode cX8_init 57 = .ok (.iconst 0, 1) := by decide +kernel
theorem dX8_init_58 : decode cX8_init 58 = .ok (.iconst 0, 1) := by decide +kernel
theorem dX8_init_59 : decode cX8_init 59 = .ok (.bipush 15, 2) := by decide +kernel
theorem dX8_init_61 : decode cX8_init 61 = .ok (.bipush 10, 2) := by decide +kernel
theorem dX8_init_63 : decode cX8_init 63 = .ok (.iconst 0, 1) := by decide +kernel
theorem dX8_init_64 : decode cX8_init 64 = .ok (.invokespecial 41, 3) := by decide +kernel
theorem dX8_init_67 : decode cX8_init 67 = .ok (.putfield 44, 3) := by decide +kernel
theorem dX8_init_70 : decode cX8_init 70 = .ok (.aload_n 0, 1) := by decide +kernel
theorem dX8_init_71 : decode cX8_init 71 = .ok (.bipush 12, 2) := by decide +kernel
theorem dX8_init_73 : decode cX8_init 73 = .ok (.anewarray 39, 3) := by decide +kernel
theorem dX8_init_76 : decode cX8_init 76 = .ok (.putfield 48, 3) := by decide +kernel
theorem dX8_init_79 : decode cX8_init 79 = .ok (.aload_n 0, 1) := by decide +kernel
theorem dX8_init_80 : decode cX8_init 80 = .ok (.bipush 60, 2) := by decide +kernel
theorem dX8_init_82 : decode cX8_init 82 = .ok (.anewarray 52, 3) := by decide +kernel
theorem dX8_init_85 : decode cX8_init 85 = .ok (.putfield 54, 3) := by decide +kernel
theorem dX8_init_88 : decode cX8_init 88 = .ok (.aload_n 0, 1) := by decide +kernel
theorem dX8_init_89 : decode cX8_init 89 = .ok (.iconst 0, 1) := by decide +kernel
theorem dX8_init_90 : decode cX8_init 90 = .ok (.putfield 58, 3) := by decide +kernel
theorem dX8_init_93 : decode cX8_init 93 = .ok (.aload_n 0, 1) := by decide +kernel
theorem dX8_init_94 : decode cX8_init 94 = .ok (.iconst 0, 1) := by decide +kernel
theorem dX8_init_95 : decode cX8_init 95 = .ok (.putfield 62, 3) := by decide +kernel
theorem dX8_init_98 : decode cX8_init 98 = .ok (.aload_n 0, 1) := by decide +kernel
theorem dX8_init_99 : decode cX8_init 99 = .ok (.iconst 0, 1) := by decide +kernel
theorem dX8_init_100 : decode cX8_init 100 = .ok (.putfield 65, 3) := by decide +kernel
theorem dX8_init_103 : decode cX8_init 103 = .ok (.return_, 1) := by decide +kernel
theorem dX8_idea_0 : decode cX8_idea 0 = .ok (.iload_n 1, 1) := by decide +kernel
theorem dX8_idea_1 : decode cX8_idea 1 = .ok (.iconst 1, 1) := by decide +kernel
theorem dX8_idea_2 : decode cX8_idea 2 = .ok (.bipush 20, 2) := by decide +kernel
theorem dX8_idea_4 : decode cX8_idea 4 = .ok (.invokestatic 68, 3) := by decide +kernel
theorem dX8_idea_7 : decode cX8_idea 7 = .ok (.ifCond .eq 13, 3) := by decide +kernel
theorem dX8_idea_10 : decode cX8_idea 10 = .ok (.new 72, 3) := by decide +kernel
theorem dX8_idea_13 : decode cX8_idea 13 = .ok (.dup, 1) := by decide +kernel
theorem dX8_idea_14 : decode cX8_idea 14 = .ok (.ldc 74, 2) := by decide +kernel
theorem dX8_idea_16 : decode cX8_idea 16 = .ok (.invokespecial 76, 3) := by decide +kernel
theorem dX8_idea_19 : decode cX8_idea 19 = .ok (.athrow, 1) := by decide +kernel
theorem dX8_idea_20 : decode cX8_idea 20 = .ok (.aload_n 0, 1) := by decide +kernel
theorem dX8_idea_21 : decode cX8_idea 21 = .ok (.getfield 10, 3) := by decide +kernel
theorem dX8_idea_24 : decode cX8_idea 24 = .ok (.iload_n 1, 1) := by decide +kernel
theorem dX8_idea_25 : decode cX8_idea 25 = .ok (.invokevirtual 79, 3) := by decide +kernel
theorem dX8_idea_28 : decode cX8_idea 28 = .ok (.istore_n 2, 1) := by decide +kernel
theorem dX8_idea_29 : decode cX8_idea 29 = .ok (.iload_n 2, 1) := by decide +kernel
theorem dX8_idea_30 : decode cX8_idea 30 = .ok (.iconst (-1), 1) := by decide +kernel
theorem dX8_idea_31 : decode cX8_idea 31 = .ok (.if_icmp .ne 13, 3) := by decide +kernel
theorem dX8_idea_34 : decode cX8_idea 34 = .ok (.new 83, 3) := by decide +kernel
theorem dX8_idea_37 : decode cX8_idea 37 = .ok (.dup, 1) := by decide +kernel
theorem dX8_idea_38 : decode cX8_idea 38 = .ok (.ldc 85, 2) := by decide +kernel
theorem dX8_idea_40 : decode cX8_idea 40 = .ok (.invokespecial 87, 3) := by decide +kernel
theorem dX8_idea_43 : decode cX8_idea 43 = .ok (.athrow, 1) := by decide +kernel
theorem dX8_idea_44 : decode cX8_idea 44 = .ok (.iload_n 2, 1) := by decide +kernel
theorem dX8_idea_45 : decode cX8_idea 45 = .ok (.ireturn, 1) := by decide +kernel
theorem dX8_entry_0 : decode cX8_entry 0 = .ok (.aload_n 0, 1) := by decide +kernel
theorem dX8_entry_1 : decode cX8_entry 1 = .ok (.getfield 10, 3) := by decide +kernel
theorem dX8_entry_4 : decode cX8_entry 4 = .ok (.iload_n 2, 1) := by decide +kernel
theorem dX8_entry_5 : decode cX8_entry 5 = .ok (.invokevirtual 88, 3) := by decide +kernel
theorem dX8_entry_8 : decode cX8_entry 8 = .ok (.ifCond .eq 38, 3) := by decide +kernel
theorem dX8_entry_11 : decode cX8_entry 11 = .ok (.aload_n 0, 1) := by decide +kernel
theorem dX8_entry_12 : decode cX8_entry 12 = .ok (.getfield 10, 3) := by decide +kernel
theorem dX8_entry_15 : decode cX8_entry 15 = .ok (.iload_n 3, 1) := by decide +kernel
theorem dX8_entry_16 : decode cX8_entry 16 = .ok (.invokevirtual 92, 3) := by decide +kernel
theorem dX8_entry_19 : decode cX8_entry 19 = .ok (.ifCond .eq 27, 3) := by decide +kernel
theorem dX8_entry_22 : decode cX8_entry 22 = .ok (.aload_n 0, 1) := by decide +kernel
theorem dX8_entry_23 : decode cX8_entry 23 = .ok (.getfield 10, 3) := by decide +kernel
theorem dX8_entry_26 : decode cX8_entry 26 = .ok (.iload 4, 2) := by decide +kernel
theorem dX8_entry_28 : decode cX8_entry 28 = .ok (.invokevirtual 92, 3) := by decide +kernel
theorem dX8_entry_31 : decode cX8_entry 31 = .ok (.ifCond .eq 15, 3) := by decide +kernel
theorem dX8_entry_34 : decode cX8_entry 34 = .ok (.aload_n 0, 1) := by decide +kernel
theorem dX8_entry_35 : decode cX8_entry 35 = .ok (.getfield 10, 3) := by decide +kernel
theorem dX8_entry_38 : decode cX8_entry 38 = .ok (.iload 5, 2) := by decide +kernel
theorem dX8_entry_40 : decode cX8_entry 40 = .ok (.invokevirtual 92, 3) := by decide +kernel
theorem dX8_entry_43 : decode cX8_entry 43 = .ok (.ifCond .ne 13, 3) := by decide +kernel
theorem dX8_entry_46 : decode cX8_entry 46 = .ok (.new 95, 3) := by decide +kernel
theorem dX8_entry_49 : decode cX8_entry 49 = .ok (.dup, 1) := by decide +kernel
theorem dX8_entry_50 : decode cX8_entry 50 = .ok (.ldc 97, 2) := by decide +kernel
theorem dX8_entry_52 : decode cX8_entry 52 = .ok (.invokespecial 99, 3) := by decide +kernel
theorem dX8_entry_55 : decode cX8_entry 55 = .ok (.athrow, 1) := by decide +kernel
theorem dX8_entry_56 : decode cX8_entry 56 = .ok (.iload_n 1, 1) := by decide +kernel
theorem dX8_entry_57 : decode cX8_entry 57 = .ok (.iconst 0, 1) := by decide +kernel
theorem dX8_entry_58 : decode cX8_entry 58 = .ok (.ldc 100, 2) := by decide +kernel
theorem dX8_entry_60 : decode cX8_entry 60 = .ok (.invokestatic 68, 3) := by decide +kernel
theorem dX8_entry_63 : decode cX8_entry 63 = .ok (.ifCond .eq 13, 3) := by decide +kernel
theorem dX8_entry_66 : decode cX8_entry 66 = .ok (.new 72, 3) := by decide +kernel
theorem dX8_entry_69 : decode cX8_entry 69 = .ok (.dup, 1) := by decide +kernel
theorem dX8_entry_70 : decode cX8_entry 70 = .ok (.ldc 101, 2) := by decide +kernel
theorem dX8_entry_72 : decode cX8_entry 72 = .ok (.invokespecial 76, 3) := by decide +kernel
theorem dX8_entry_75 : decode cX8_entry 75 = .ok (.athrow, 1) := by decide +kernel
theorem dX8_entry_76 : decode cX8_entry 76 = .ok (.iload_n 3, 1) := by decide +kernel
theorem dX8_entry_77 : decode cX8_entry 77 = .ok (.iconst (-1), 1) := by decide +kernel
theorem dX8_entry_78 : decode cX8_entry 78 = .ok (.if_icmp .ne 9, 3) := by decide +kernel
theorem dX8_entry_81 : decode cX8_entry 81 = .ok (.iload 4, 2) := by decide +kernel
theorem dX8_entry_83 : decode cX8_entry 83 = .ok (.iconst (-1), 1) := by decide +kernel
theorem dX8_entry_84 : decode cX8_entry 84 = .ok (.if_icmp .ne 15, 3) := by decide +kernel
theorem dX8_entry_87 : decode cX8_entry 87 = .ok (.iload 4, 2) := by decide +kernel
theorem dX8_entry_89 : decode cX8_entry 89 = .ok (.iconst (-1), 1) := by decide +kernel
theorem dX8_entry_90 : decode cX8_entry 90 = .ok (.if_icmp .ne 19, 3) := by decide +kernel
theorem dX8_entry_93 : decode cX8_entry 93 = .ok (.iload 5, 2) := by decide +kernel
theorem dX8_entry_95 : decode cX8_entry 95 = .ok (.iconst (-1), 1) := by decide +kernel
theorem dX8_entry_96 : decode cX8_entry 96 = .ok (.if_icmp .eq 13, 3) := by decide +kernel
theorem dX8_entry_99 : decode cX8_entry 99 = .ok (.new 72, 3) := by decide +kernel
theorem dX8_entry_102 : decode cX8_entry 102 = .ok (.dup, 1) := by decide +kernel
theorem dX8_entry_103 : decode cX8_entry 103 = .ok (.ldc 103, 2) := by decide +kernel
theorem dX8_entry_105 : decode cX8_entry 105 = .ok (.invokespecial 76, 3) := by decide +kernel
theorem dX8_entry_108 : decode cX8_entry 108 = .ok (.athrow, 1) := by decide +kernel
theorem dX8_entry_109 : decode cX8_entry 109 = .ok (.aload_n 0, 1) := by decide +kernel
theorem dX8_entry_110 : decode cX8_entry 110 = .ok (.getfield 10, 3) := by decide +kernel
theorem dX8_entry_113 : decode cX8_entry 113 = .ok (.iload_n 2, 1) := by decide +kernel
theorem dX8_entry_114 : decode cX8_entry 114 = .ok (.iload_n 3, 1) := by decide +kernel
theorem dX8_entry_115 : decode cX8_entry 115 = .ok (.iload 4, 2) := by decide +kernel
theorem dX8_entry_117 : decode cX8_entry 117 = .ok (.iload 5, 2) := by decide +kernel
theorem dX8_entry_119 : decode cX8_entry 119 = .ok (.invokevirtual 105, 3) := by decide +kernel
theorem dX8_entry_122 : decode cX8_entry 122 = .ok (.ifCond .ne 14, 3) := by decide +kernel
theorem dX8_entry_125 : decode cX8_entry 125 = .ok (.aload_n 0, 1) := by decide +kernel
theorem dX8_entry_126 : decode cX8_entry 126 = .ok (.getfield 10, 3) := by decide +kernel
theorem dX8_entry_129 : decode cX8_entry 129 = .ok (.iload_n 1, 1) := by decide +kernel
theorem dX8_entry_130 : decode cX8_entry 130 = .ok (.invokevirtual 109, 3) := by decide +kernel
theorem dX8_entry_133 : decode cX8_entry 133 = .ok (.ifCond .eq 13, 3) := by decide +kernel
theorem dX8_entry_136 : decode cX8_entry 136 = .ok (.new 83, 3) := by decide +kernel
theorem dX8_entry_139 : decode cX8_entry 139 = .ok (.dup, 1) := by decide +kernel
theorem dX8_entry_140 : decode cX8_entry 140 = .ok (.ldc 112, 2) := by decide +kernel
theorem dX8_entry_142 : decode cX8_entry 142 = .ok (.invokespecial 87, 3) := by decide +kernel
theorem dX8_entry_145 : decode cX8_entry 145 = .ok (.athrow, 1) := by decide +kernel
theorem dX8_entry_146 : decode cX8_entry 146 = .ok (.aload_n 0, 1) := by decide +kernel
theorem dX8_entry_147 : decode cX8_entry 147 = .ok (.getfield 10, 3) := by decide +kernel
theorem dX8_entry_150 : decode cX8_entry 150 = .ok (.iload_n 1, 1) := by decide +kernel
theorem dX8_entry_151 : decode cX8_entry 151 = .ok (.iload_n 2, 1) := by decide +kernel
theorem dX8_entry_152 : decode cX8_entry 152 = .ok (.iload_n 3, 1) := by decide +kernel
theorem dX8_entry_153 : decode cX8_entry 153 = .ok (.iload 4, 2) := by decide +kernel
theorem dX8_entry_155 : decode cX8_entry 155 = .ok (.iload 5, 2) := by decide +kernel
theorem dX8_entry_157 : decode cX8_entry 157 = .ok (.invokevirtual 114, 3) := by decide +kernel
theorem dX8_entry_160 : decode cX8_entry 160 = .ok (.istore 6, 2) := by decide +kernel
theorem dX8_entry_162 : decode cX8_entry 162 = .ok (.iload 6, 2) := by decide +kernel
theorem dX8_entry_164 : decode cX8_entry 164 = .ok (.iconst (-1), 1) := by decide +kernel
theorem dX8_entry_165 : decode cX8_entry 165 = .ok (.if_icmp .ne 13, 3) := by decide +kernel
theorem dX8_entry_168 : decode cX8_entry 168 = .ok (.new 83, 3) := by decide +kernel
theorem dX8_entry_171 : decode cX8_entry 171 = .ok (.dup, 1) := by decide +kernel
theorem dX8_entry_172 : decode cX8_entry 172 = .ok (.ldc 118, 2) := by decide +kernel
theorem dX8_entry_174 : decode cX8_entry 174 = .ok (.invokespecial 87, 3) := by decide +kernel
theorem dX8_entry_177 : decode cX8_entry 177 = .ok (.athrow, 1) := by decide +kernel
theorem dX8_entry_178 : decode cX8_entry 178 = .ok (.iload 6, 2) := by decide +kernel
theorem dX8_entry_180 : decode cX8_entry 180 = .ok (.ireturn, 1) := by decide +kernel
theorem dX8_candidates_0 : decode cX8_candidates 0 = .ok (.iload_n 1, 1) := by decide +kernel
theorem dX8_candidates_1 : decode cX8_candidates 1 = .ok (.iconst 0, 1) := by decide +kernel
theorem dX8_candidates_2 : decode cX8_candidates 2 = .ok (.ldc 100, 2) := by decide +kernel
theorem dX8_candidates_4 : decode cX8_candidates 4 = .ok (.invokestatic 68, 3) := by decide +kernel
theorem dX8_candidates_7 : decode cX8_candidates 7 = .ok (.ifCond .eq 13, 3) := by decide +kernel
theorem dX8_candidates_10 : decode cX8_candidates 10 = .ok (.new 72, 3) := by decide +kernel
theorem dX8_candidates_13 : decode cX8_candidates 13 = .ok (.dup, 1) := by decide +kernel
theorem dX8_candidates_14 : decode cX8_candidates 14 = .ok (.ldc 101, 2) := by decide +kernel
theorem dX8_candidates_16 : decode cX8_candidates 16 = .ok (.invokespecial 76, 3) := by decide +kernel
theorem dX8_candidates_19 : decode cX8_candidates 19 = .ok (.athrow, 1) := by decide +kernel
theorem dX8_candidates_20 : decode cX8_candidates 20 = .ok (.aload_n 0, 1) := by decide +kernel
theorem dX8_candidates_21 : decode cX8_candidates 21 = .ok (.getfield 10, 3) := by decide +kernel
theorem dX8_candidates_24 : decode cX8_candidates 24 = .ok (.iload_n 1, 1) := by decide +kernel
theorem dX8_candidates_25 : decode cX8_candidates 25 = .ok (.invokevirtual 120, 3) := by decide +kernel
theorem dX8_candidates_28 : decode cX8_candidates 28 = .ok (.aload_n 0, 1) := by decide +kernel
theorem dX8_candidates_29 : decode cX8_candidates 29 = .ok (.getfield 10, 3) := by decide +kernel
theorem dX8_candidates_32 : decode cX8_candidates 32 = .ok (.getfield 124, 3) := by decide +kernel
theorem dX8_candidates_35 : decode cX8_candidates 35 = .ok (.ireturn, 1) := by decide +kernel
theorem dX8_candidate_0 : decode cX8_candidate 0 = .ok (.iload_n 2, 1) := by decide +kernel
theorem dX8_candidate_1 : decode cX8_candidate 1 = .ok (.ifCond .ge 13, 3) := by decide +kernel
theorem dX8_candidate_4 : decode cX8_candidate 4 = .ok (.new 95, 3) := by decide +kernel
theorem dX8_candidate_7 : decode cX8_candidate 7 = .ok (.dup, 1) := by decide +kernel
theorem dX8_candidate_8 : decode cX8_candidate 8 = .ok (.ldc 127, 2) := by decide +kernel
theorem dX8_candidate_10 : decode cX8_candidate 10 = .ok (.invokespecial 99, 3) := by decide +kernel
theorem dX8_candidate_13 : decode cX8_candidate 13 = .ok (.athrow, 1) := by decide +kernel
theorem dX8_candidate_14 : decode cX8_candidate 14 = .ok (.iload_n 1, 1) := by decide +kernel
theorem dX8_candidate_15 : decode cX8_candidate 15 = .ok (.iconst 0, 1) := by decide +kernel
theorem dX8_candidate_16 : decode cX8_candidate 16 = .ok (.ldc 100, 2) := by decide +kernel
theorem dX8_candidate_18 : decode cX8_candidate 18 = .ok (.invokestatic 68, 3) := by decide +kernel
theorem dX8_candidate_21 : decode cX8_candidate 21 = .ok (.ifCond .eq 13, 3) := by decide +kernel
theorem dX8_candidate_24 : decode cX8_candidate 24 = .ok (.new 72, 3) := by decide +kernel
theorem dX8_candidate_27 : decode cX8_candidate 27 = .ok (.dup, 1) := by decide +kernel
theorem dX8_candidate_28 : decode cX8_candidate 28 = .ok (.ldc 101, 2) := by decide +kernel
theorem dX8_candidate_30 : decode cX8_candidate 30 = .ok (.invokespecial 76, 3) := by decide +kernel
theorem dX8_candidate_33 : decode cX8_candidate 33 = .ok (.athrow, 1) := by decide +kernel
theorem dX8_candidate_34 : decode cX8_candidate 34 = .ok (.aload_n 0, 1) := by decide +kernel
theorem dX8_candidate_35 : decode cX8_candidate 35 = .ok (.getfield 10, 3) := by decide +kernel
theorem dX8_candidate_38 : decode cX8_candidate 38 = .ok (.iload_n 1, 1) := by decide +kernel
theorem dX8_candidate_39 : decode cX8_candidate 39 = .ok (.invokevirtual 120, 3) := by decide +kernel
theorem dX8_candidate_42 : decode cX8_candidate 42 = .ok (.aload_n 0, 1) := by decide +kernel
theorem dX8_candidate_43 : decode cX8_candidate 43 = .ok (.getfield 10, 3) := by decide +kernel
theorem dX8_candidate_46 : decode cX8_candidate 46 = .ok (.iload_n 2, 1) := by decide +kernel
theorem dX8_candidate_47 : decode cX8_candidate 47 = .ok (.invokevirtual 129, 3) := by decide +kernel
theorem dX8_candidate_50 : decode cX8_candidate 50 = .ok (.ireturn, 1) := by decide +kernel
theorem dX8_office_0 : decode cX8_office 0 = .ok (.aload_n 0, 1) := by decide +kernel
theorem dX8_office_1 : decode cX8_office 1 = .ok (.getfield 35, 3) := by decide +kernel
theorem dX8_office_4 : decode cX8_office 4 = .ok (.invokevirtual 132, 3) := by decide +kernel
theorem dX8_office_7 : decode cX8_office 7 = .ok (.istore_n 1, 1) := by decide +kernel
theorem dX8_office_8 : decode cX8_office 8 = .ok (.iload_n 1, 1) := by decide +kernel
theorem dX8_office_9 : decode cX8_office 9 = .ok (.iconst (-1), 1) := by decide +kernel
theorem dX8_office_10 : decode cX8_office 10 = .ok (.if_icmp .ne 13, 3) := by decide +kernel
theorem dX8_office_13 : decode cX8_office 13 = .ok (.new 83, 3) := by decide +kernel
theorem dX8_office_16 : decode cX8_office 16 = .ok (.dup, 1) := by decide +kernel
theorem dX8_office_17 : decode cX8_office 17 = .ok (.ldc 136, 2) := by decide +kernel
theorem dX8_office_19 : decode cX8_office 19 = .ok (.invokespecial 87, 3) := by decide +kernel
theorem dX8_office_22 : decode cX8_office 22 = .ok (.athrow, 1) := by decide +kernel
theorem dX8_office_23 : decode cX8_office 23 = .ok (.iload_n 1, 1) := by decide +kernel
theorem dX8_office_24 : decode cX8_office 24 = .ok (.ireturn, 1) := by decide +kernel
theorem dX8_cable_0 : decode cX8_cable 0 = .ok (.aload_n 0, 1) := by decide +kernel
theorem dX8_cable_1 : decode cX8_cable 1 = .ok (.getfield 35, 3) := by decide +kernel
theorem dX8_cable_4 : decode cX8_cable 4 = .ok (.iload_n 1, 1) := by decide +kernel
theorem dX8_cable_5 : decode cX8_cable 5 = .ok (.invokevirtual 138, 3) := by decide +kernel
theorem dX8_cable_8 : decode cX8_cable 8 = .ok (.ifnull 14, 3) := by decide +kernel
theorem dX8_cable_11 : decode cX8_cable 11 = .ok (.aload_n 0, 1) := by decide +kernel
theorem dX8_cable_12 : decode cX8_cable 12 = .ok (.getfield 35, 3) := by decide +kernel
theorem dX8_cable_15 : decode cX8_cable 15 = .ok (.iload_n 2, 1) := by decide +kernel
theorem dX8_cable_16 : decode cX8_cable 16 = .ok (.invokevirtual 138, 3) := by decide +kernel
theorem dX8_cable_19 : decode cX8_cable 19 = .ok (.ifnonnull 13, 3) := by decide +kernel
theorem dX8_cable_22 : decode cX8_cable 22 = .ok (.new 95, 3) := by decide +kernel
theorem dX8_cable_25 : decode cX8_cable 25 = .ok (.dup, 1) := by decide +kernel
theorem dX8_cable_26 : decode cX8_cable 26 = .ok (.ldc 142, 2) := by decide +kernel
theorem dX8_cable_28 : decode cX8_cable 28 = .ok (.invokespecial 99, 3) := by decide +kernel
theorem dX8_cable_31 : decode cX8_cable 31 = .ok (.athrow, 1) := by decide +kernel
theorem dX8_cable_32 : decode cX8_cable 32 = .ok (.iload_n 1, 1) := by decide +kernel
theorem dX8_cable_33 : decode cX8_cable 33 = .ok (.iload_n 2, 1) := by decide +kernel
theorem dX8_cable_34 : decode cX8_cable 34 = .ok (.if_icmp .eq 24, 3) := by decide +kernel
theorem dX8_cable_37 : decode cX8_cable 37 = .ok (.iload_n 3, 1) := by decide +kernel
theorem dX8_cable_38 : decode cX8_cable 38 = .ok (.iconst 1, 1) := by decide +kernel
theorem dX8_cable_39 : decode cX8_cable 39 = .ok (.bipush 100, 2) := by decide +kernel
theorem dX8_cable_41 : decode cX8_cable 41 = .ok (.invokestatic 68, 3) := by decide +kernel
theorem dX8_cable_44 : decode cX8_cable 44 = .ok (.ifCond .ne 14, 3) := by decide +kernel
theorem dX8_cable_47 : decode cX8_cable 47 = .ok (.iload 4, 2) := by decide +kernel
theorem dX8_cable_49 : decode cX8_cable 49 = .ok (.iconst 1, 1) := by decide +kernel
theorem dX8_cable_50 : decode cX8_cable 50 = .ok (.bipush 20, 2) := by decide +kernel
theorem dX8_cable_52 : decode cX8_cable 52 = .ok (.invokestatic 68, 3) := by decide +kernel
theorem dX8_cable_55 : decode cX8_cable 55 = .ok (.ifCond .eq 13, 3) := by decide +kernel
theorem dX8_cable_58 : decode cX8_cable 58 = .ok (.new 72, 3) := by decide +kernel
theorem dX8_cable_61 : decode cX8_cable 61 = .ok (.dup, 1) := by decide +kernel
theorem dX8_cable_62 : decode cX8_cable 62 = .ok (.ldc 144, 2) := by decide +kernel
theorem dX8_cable_64 : decode cX8_cable 64 = .ok (.invokespecial 76, 3) := by decide +kernel
theorem dX8_cable_67 : decode cX8_cable 67 = .ok (.athrow, 1) := by decide +kernel
theorem dX8_cable_68 : decode cX8_cable 68 = .ok (.aload_n 0, 1) := by decide +kernel
theorem dX8_cable_69 : decode cX8_cable 69 = .ok (.getfield 35, 3) := by decide +kernel
theorem dX8_cable_72 : decode cX8_cable 72 = .ok (.iload_n 1, 1) := by decide +kernel
theorem dX8_cable_73 : decode cX8_cable 73 = .ok (.iload_n 2, 1) := by decide +kernel
theorem dX8_cable_74 : decode cX8_cable 74 = .ok (.iload_n 3, 1) := by decide +kernel
theorem dX8_cable_75 : decode cX8_cable 75 = .ok (.iload 4, 2) := by decide +kernel
theorem dX8_cable_77 : decode cX8_cable 77 = .ok (.invokevirtual 146, 3) := by decide +kernel
theorem dX8_cable_80 : decode cX8_cable 80 = .ok (.istore 5, 2) := by decide +kernel
theorem dX8_cable_82 : decode cX8_cable 82 = .ok (.iload 5, 2) := by decide +kernel
theorem dX8_cable_84 : decode cX8_cable 84 = .ok (.iconst (-1), 1) := by decide +kernel
theorem dX8_cable_85 : decode cX8_cable 85 = .ok (.if_icmp .ne 13, 3) := by decide +kernel
theorem dX8_cable_88 : decode cX8_cable 88 = .ok (.new 83, 3) := by decide +kernel
theorem dX8_cable_91 : decode cX8_cable 91 = .ok (.dup, 1) := by decide +kernel
theorem dX8_cable_92 : decode cX8_cable 92 = .ok (.ldc 150, 2) := by decide +kernel
theorem dX8_cable_94 : decode cX8_cable 94 = .ok (.invokespecial 87, 3) := by decide +kernel
theorem dX8_cable_97 : decode cX8_cable 97 = .ok (.athrow, 1) := by decide +kernel
theorem dX8_cable_98 : decode cX8_cable 98 = .ok (.iload 5, 2) := by decide +kernel
theorem dX8_cable_100 : decode cX8_cable 100 = .ok (.ireturn, 1) := by decide +kernel
theorem dX8_broken_0 : decode cX8_broken 0 = .ok (.aload_n 0, 1) := by decide +kernel
theorem dX8_broken_1 : decode cX8_broken 1 = .ok (.getfield 35, 3) := by decide +kernel
theorem dX8_broken_4 : decode cX8_broken 4 = .ok (.iload_n 1, 1) := by decide +kernel
theorem dX8_broken_5 : decode cX8_broken 5 = .ok (.invokevirtual 152, 3) := by decide +kernel
theorem dX8_broken_8 : decode cX8_broken 8 = .ok (.astore_n 3, 1) := by decide +kernel
theorem dX8_broken_9 : decode cX8_broken 9 = .ok (.aload_n 3, 1) := by decide +kernel
theorem dX8_broken_10 : decode cX8_broken 10 = .ok (.ifnonnull 13, 3) := by decide +kernel
theorem dX8_broken_13 : decode cX8_broken 13 = .ok (.new 95, 3) := by decide +kernel
theorem dX8_broken_16 : decode cX8_broken 16 = .ok (.dup, 1) := by decide +kernel
theorem dX8_broken_17 : decode cX8_broken 17 = .ok (.ldc 156, 2) := by decide +kernel
theorem dX8_broken_19 : decode cX8_broken 19 = .ok (.invokespecial 99, 3) := by decide +kernel
theorem dX8_broken_22 : decode cX8_broken 22 = .ok (.athrow, 1) := by decide +kernel
theorem dX8_broken_23 : decode cX8_broken 23 = .ok (.aload_n 3, 1) := by decide +kernel
theorem dX8_broken_24 : decode cX8_broken 24 = .ok (.iload_n 2, 1) := by decide +kernel
theorem dX8_broken_25 : decode cX8_broken 25 = .ok (.putfield 158, 3) := by decide +kernel
theorem dX8_broken_28 : decode cX8_broken 28 = .ok (.aload_n 0, 1) := by decide +kernel
theorem dX8_broken_29 : decode cX8_broken 29 = .ok (.iload_n 1, 1) := by decide +kernel
theorem dX8_broken_30 : decode cX8_broken 30 = .ok (.invokevirtual 164, 3) := by decide +kernel
theorem dX8_broken_33 : decode cX8_broken 33 = .ok (.ireturn, 1) := by decide +kernel
theorem dX8_forbid_0 : decode cX8_forbid 0 = .ok (.aload_n 0, 1) := by decide +kernel
theorem dX8_forbid_1 : decode cX8_forbid 1 = .ok (.getfield 35, 3) := by decide +kernel
theorem dX8_forbid_4 : decode cX8_forbid 4 = .ok (.iload_n 1, 1) := by decide +kernel
theorem dX8_forbid_5 : decode cX8_forbid 5 = .ok (.invokevirtual 138, 3) := by decide +kernel
theorem dX8_forbid_8 : decode cX8_forbid 8 = .ok (.astore_n 3, 1) := by decide +kernel
theorem dX8_forbid_9 : decode cX8_forbid 9 = .ok (.aload_n 3, 1) := by decide +kernel
theorem dX8_forbid_10 : decode cX8_forbid 10 = .ok (.ifnonnull 13, 3) := by decide +kernel
theorem dX8_forbid_13 : decode cX8_forbid 13 = .ok (.new 95, 3) := by decide +kernel
theorem dX8_forbid_16 : decode cX8_forbid 16 = .ok (.dup, 1) := by decide +kernel
theorem dX8_forbid_17 : decode cX8_forbid 17 = .ok (.ldc 142, 2) := by decide +kernel
theorem dX8_forbid_19 : decode cX8_forbid 19 = .ok (.invokespecial 99, 3) := by decide +kernel
theorem dX8_forbid_22 : decode cX8_forbid 22 = .ok (.athrow, 1) := by decide +kernel
theorem dX8_forbid_23 : decode cX8_forbid 23 = .ok (.aload_n 3, 1) := by decide +kernel
theorem dX8_forbid_24 : decode cX8_forbid 24 = .ok (.getfield 167, 3) := by decide +kernel
theorem dX8_forbid_27 : decode cX8_forbid 27 = .ok (.istore 4, 2) := by decide +kernel
theorem dX8_forbid_29 : decode cX8_forbid 29 = .ok (.aload_n 3, 1) := by decide +kernel
theorem dX8_forbid_30 : decode cX8_forbid 30 = .ok (.iload_n 2, 1) := by decide +kernel
theorem dX8_forbid_31 : decode cX8_forbid 31 = .ok (.putfield 167, 3) := by decide +kernel
theorem dX8_forbid_34 : decode cX8_forbid 34 = .ok (.iload 4, 2) := by decide +kernel
theorem dX8_forbid_36 : decode cX8_forbid 36 = .ok (.ireturn, 1) := by decide +kernel
theorem dX8_key_0 : decode cX8_key 0 = .ok (.aload_n 0, 1) := by decide +kernel
theorem dX8_key_1 : decode cX8_key 1 = .ok (.getfield 35, 3) := by decide +kernel
theorem dX8_key_4 : decode cX8_key 4 = .ok (.iload_n 1, 1) := by decide +kernel
theorem dX8_key_5 : decode cX8_key 5 = .ok (.invokevirtual 138, 3) := by decide +kernel
theorem dX8_key_8 : decode cX8_key 8 = .ok (.astore_n 3, 1) := by decide +kernel
theorem dX8_key_9 : decode cX8_key 9 = .ok (.aload_n 3, 1) := by decide +kernel
theorem dX8_key_10 : decode cX8_key 10 = .ok (.ifnonnull 13, 3) := by decide +kernel
theorem dX8_key_13 : decode cX8_key 13 = .ok (.new 95, 3) := by decide +kernel
theorem dX8_key_16 : decode cX8_key 16 = .ok (.dup, 1) := by decide +kernel
theorem dX8_key_17 : decode cX8_key 17 = .ok (.ldc 142, 2) := by decide +kernel
theorem dX8_key_19 : decode cX8_key 19 = .ok (.invokespecial 99, 3) := by decide +kernel
theorem dX8_key_22 : decode cX8_key 22 = .ok (.athrow, 1) := by decide +kernel
theorem dX8_key_23 : decode cX8_key 23 = .ok (.iload_n 2, 1) := by decide +kernel
theorem dX8_key_24 : decode cX8_key 24 = .ok (.iconst 0, 1) := by decide +kernel
theorem dX8_key_25 : decode cX8_key 25 = .ok (.bipush 39, 2) := by decide +kernel
theorem dX8_key_27 : decode cX8_key 27 = .ok (.invokestatic 68, 3) := by decide +kernel
theorem dX8_key_30 : decode cX8_key 30 = .ok (.ifCond .eq 13, 3) := by decide +kernel
theorem dX8_key_33 : decode cX8_key 33 = .ok (.new 72, 3) := by decide +kernel
theorem dX8_key_36 : decode cX8_key 36 = .ok (.dup, 1) := by decide +kernel
theorem dX8_key_37 : decode cX8_key 37 = .ok (.ldc 172, 2) := by decide +kernel
theorem dX8_key_39 : decode cX8_key 39 = .ok (.invokespecial 76, 3) := by decide +kernel
theorem dX8_key_42 : decode cX8_key 42 = .ok (.athrow, 1) := by decide +kernel
theorem dX8_key_43 : decode cX8_key 43 = .ok (.aload_n 3, 1) := by decide +kernel
theorem dX8_key_44 : decode cX8_key 44 = .ok (.getfield 174, 3) := by decide +kernel
theorem dX8_key_47 : decode cX8_key 47 = .ok (.istore 4, 2) := by decide +kernel
theorem dX8_key_49 : decode cX8_key 49 = .ok (.aload_n 3, 1) := by decide +kernel
theorem dX8_key_50 : decode cX8_key 50 = .ok (.iload_n 2, 1) := by decide +kernel
theorem dX8_key_51 : decode cX8_key 51 = .ok (.putfield 174, 3) := by decide +kernel
theorem dX8_key_54 : decode cX8_key 54 = .ok (.iload 4, 2) := by decide +kernel
theorem dX8_key_56 : decode cX8_key 56 = .ok (.ireturn, 1) := by decide +kernel
theorem dX8_conference_0 : decode cX8_conference 0 = .ok (.iload_n 1, 1) := by decide +kernel
theorem dX8_conference_1 : decode cX8_conference 1 = .ok (.iconst 0, 1) := by decide +kernel
theorem dX8_conference_2 : decode cX8_conference 2 = .ok (.sipush 1000, 3) := by decide +kernel
theorem dX8_conference_5 : decode cX8_conference 5 = .ok (.invokestatic 68, 3) := by decide +kernel
theorem dX8_conference_8 : decode cX8_conference 8 = .ok (.ifCond .ne 40, 3) := by decide +kernel
theorem dX8_conference_11 : decode cX8_conference 11 = .ok (.iload_n 2, 1) := by decide +kernel
theorem dX8_conference_12 : decode cX8_conference 12 = .ok (.iconst 5, 1) := by decide +kernel
theorem dX8_conference_13 : decode cX8_conference 13 = .ok (.bipush 20, 2) := by decide +kernel
theorem dX8_conference_15 : decode cX8_conference 15 = .ok (.invokestatic 68, 3) := by decide +kernel
theorem dX8_conference_18 : decode cX8_conference 18 = .ok (.ifCond .ne 30, 3) := by decide +kernel
theorem dX8_conference_21 : decode cX8_conference 21 = .ok (.iload_n 3, 1) := by decide +kernel
theorem dX8_conference_22 : decode cX8_conference 22 = .ok (.iconst 5, 1) := by decide +kernel
theorem dX8_conference_23 : decode cX8_conference 23 = .ok (.if_icmp .eq 15, 3) := by decide +kernel
theorem dX8_conference_26 : decode cX8_conference 26 = .ok (.iload_n 3, 1) := by decide +kernel
theorem dX8_conference_27 : decode cX8_conference 27 = .ok (.bipush 10, 2) := by decide +kernel
theorem dX8_conference_29 : decode cX8_conference 29 = .ok (.if_icmp .eq 9, 3) := by decide +kernel
theorem dX8_conference_32 : decode cX8_conference 32 = .ok (.iload_n 3, 1) := by decide +kernel
theorem dX8_conference_33 : decode cX8_conference 33 = .ok (.bipush 15, 2) := by decide +kernel
theorem dX8_conference_35 : decode cX8_conference 35 = .ok (.if_icmp .ne 13, 3) := by decide +kernel
theorem dX8_conference_38 : decode cX8_conference 38 = .ok (.iload 4, 2) := by decide +kernel
theorem dX8_conference_40 : decode cX8_conference 40 = .ok (.iconst 0, 1) := by decide +kernel
theorem dX8_conference_41 : decode cX8_conference 41 = .ok (.iconst 3, 1) := by decide +kernel
theorem dX8_conference_42 : decode cX8_conference 42 = .ok (.invokestatic 68, 3) := by decide +kernel
theorem dX8_conference_45 : decode cX8_conference 45 = .ok (.ifCond .eq 13, 3) := by decide +kernel
theorem dX8_conference_48 : decode cX8_conference 48 = .ok (.new 72, 3) := by decide +kernel
theorem dX8_conference_51 : decode cX8_conference 51 = .ok (.dup, 1) := by decide +kernel
theorem dX8_conference_52 : decode cX8_conference 52 = .ok (.ldc 177, 2) := by decide +kernel
theorem dX8_conference_54 : decode cX8_conference 54 = .ok (.invokespecial 76, 3) := by decide +kernel
theorem dX8_conference_57 : decode cX8_conference 57 = .ok (.athrow, 1) := by decide +kernel
theorem dX8_conference_58 : decode cX8_conference 58 = .ok (.aload_n 0, 1) := by decide +kernel
theorem dX8_conference_59 : decode cX8_conference 59 = .ok (.getfield 58, 3) := by decide +kernel
theorem dX8_conference_62 : decode cX8_conference 62 = .ok (.aload_n 0, 1) := by decide +kernel
theorem dX8_conference_63 : decode cX8_conference 63 = .ok (.getfield 48, 3) := by decide +kernel
theorem dX8_conference_66 : decode cX8_conference 66 = .ok (.arraylength, 1) := by decide +kernel
theorem dX8_conference_67 : decode cX8_conference 67 = .ok (.if_icmp .lt 13, 3) := by decide +kernel
theorem dX8_conference_70 : decode cX8_conference 70 = .ok (.new 83, 3) := by decide +kernel
theorem dX8_conference_73 : decode cX8_conference 73 = .ok (.dup, 1) := by decide +kernel
theorem dX8_conference_74 : decode cX8_conference 74 = .ok (.ldc 179, 2) := by decide +kernel
theorem dX8_conference_76 : decode cX8_conference 76 = .ok (.invokespecial 87, 3) := by decide +kernel
theorem dX8_conference_79 : decode cX8_conference 79 = .ok (.athrow, 1) := by decide +kernel
theorem dX8_conference_80 : decode cX8_conference 80 = .ok (.aload_n 0, 1) := by decide +kernel
theorem dX8_conference_81 : decode cX8_conference 81 = .ok (.getfield 58, 3) := by decide +kernel
theorem dX8_conference_84 : decode cX8_conference 84 = .ok (.iconst 1, 1) := by decide +kernel
theorem dX8_conference_85 : decode cX8_conference 85 = .ok (.iadd, 1) := by decide +kernel
theorem dX8_conference_86 : decode cX8_conference 86 = .ok (.istore 5, 2) := by decide +kernel
theorem dX8_conference_88 : decode cX8_conference 88 = .ok (.aload_n 0, 1) := by decide +kernel
theorem dX8_conference_89 : decode cX8_conference 89 = .ok (.getfield 48, 3) := by decide +kernel
theorem dX8_conference_92 : decode cX8_conference 92 = .ok (.aload_n 0, 1) := by decide +kernel
theorem dX8_conference_93 : decode cX8_conference 93 = .ok (.getfield 58, 3) := by decide +kernel
theorem dX8_conference_96 : decode cX8_conference 96 = .ok (.new 39, 3) := by decide +kernel
theorem dX8_conference_99 : decode cX8_conference 99 = .ok (.dup, 1) := by decide +kernel
theorem dX8_conference_100 : decode cX8_conference 100 = .ok (.iload 5, 2) := by decide +kernel
theorem dX8_conference_102 : decode cX8_conference 102 = .ok (.iload_n 1, 1) := by decide +kernel
theorem dX8_conference_103 : decode cX8_conference 103 = .ok (.iload_n 2, 1) := by decide +kernel
theorem dX8_conference_104 : decode cX8_conference 104 = .ok (.iload_n 3, 1) := by decide +kernel
theorem dX8_conference_105 : decode cX8_conference 105 = .ok (.iload 4, 2) := by decide +kernel
theorem dX8_conference_107 : decode cX8_conference 107 = .ok (.invokespecial 41, 3) := by decide +kernel
theorem dX8_conference_110 : decode cX8_conference 110 = .ok (.aastore, 1) := by decide +kernel
theorem dX8_conference_111 : decode cX8_conference 111 = .ok (.aload_n 0, 1) := by decide +kernel
theorem dX8_conference_112 : decode cX8_conference 112 = .ok (.iload 5, 2) := by decide +kernel
theorem dX8_conference_114 : decode cX8_conference 114 = .ok (.putfield 58, 3) := by decide +kernel
theorem dX8_conference_117 : decode cX8_conference 117 = .ok (.iload 5, 2) := by decide +kernel
theorem dX8_conference_119 : decode cX8_conference 119 = .ok (.ireturn, 1) := by decide +kernel
theorem dX8_reserve_0 : decode cX8_reserve 0 = .ok (.aload_n 0, 1) := by decide +kernel
theorem dX8_reserve_1 : decode cX8_reserve 1 = .ok (.getfield 35, 3) := by decide +kernel
theorem dX8_reserve_4 : decode cX8_reserve 4 = .ok (.iload_n 1, 1) := by decide +kernel
theorem dX8_reserve_5 : decode cX8_reserve 5 = .ok (.invokevirtual 138, 3) := by decide +kernel
theorem dX8_reserve_8 : decode cX8_reserve 8 = .ok (.astore_n 3, 1) := by decide +kernel
theorem dX8_reserve_9 : decode cX8_reserve 9 = .ok (.aload_n 3, 1) := by decide +kernel
theorem dX8_reserve_10 : decode cX8_reserve 10 = .ok (.ifnull 15, 3) := by decide +kernel
theorem dX8_reserve_13 : decode cX8_reserve 13 = .ok (.iload_n 2, 1) := by decide +kernel
theorem dX8_reserve_14 : decode cX8_reserve 14 = .ok (.iconst 1, 1) := by decide +kernel
theorem dX8_reserve_15 : decode cX8_reserve 15 = .ok (.aload_n 0, 1) := by decide +kernel
theorem dX8_reserve_16 : decode cX8_reserve 16 = .ok (.getfield 58, 3) := by decide +kernel
theorem dX8_reserve_19 : decode cX8_reserve 19 = .ok (.invokestatic 68, 3) := by decide +kernel
theorem dX8_reserve_22 : decode cX8_reserve 22 = .ok (.ifCond .eq 13, 3) := by decide +kernel
theorem dX8_reserve_25 : decode cX8_reserve 25 = .ok (.new 95, 3) := by decide +kernel
theorem dX8_reserve_28 : decode cX8_reserve 28 = .ok (.dup, 1) := by decide +kernel
theorem dX8_reserve_29 : decode cX8_reserve 29 = .ok (.ldc 181, 2) := by decide +kernel
theorem dX8_reserve_31 : decode cX8_reserve 31 = .ok (.invokespecial 99, 3) := by decide +kernel
theorem dX8_reserve_34 : decode cX8_reserve 34 = .ok (.athrow, 1) := by decide +kernel
theorem dX8_reserve_35 : decode cX8_reserve 35 = .ok (.aload_n 3, 1) := by decide +kernel
theorem dX8_reserve_36 : decode cX8_reserve 36 = .ok (.iload_n 2, 1) := by decide +kernel
theorem dX8_reserve_37 : decode cX8_reserve 37 = .ok (.invokevirtual 183, 3) := by decide +kernel
theorem dX8_reserve_40 : decode cX8_reserve 40 = .ok (.aload_n 0, 1) := by decide +kernel
theorem dX8_reserve_41 : decode cX8_reserve 41 = .ok (.aload_n 3, 1) := by decide +kernel
theorem dX8_reserve_42 : decode cX8_reserve 42 = .ok (.invokevirtual 186, 3) := by decide +kernel
theorem dX8_reserve_45 : decode cX8_reserve 45 = .ok (.getfield 190, 3) := by decide +kernel
theorem dX8_reserve_48 : decode cX8_reserve 48 = .ok (.ireturn, 1) := by decide +kernel
theorem dX8_draft_0 : decode cX8_draft 0 = .ok (.aload_n 0, 1) := by decide +kernel
theorem dX8_draft_1 : decode cX8_draft 1 = .ok (.getfield 10, 3) := by decide +kernel
theorem dX8_draft_4 : decode cX8_draft 4 = .ok (.iload_n 1, 1) := by decide +kernel
theorem dX8_draft_5 : decode cX8_draft 5 = .ok (.invokevirtual 88, 3) := by decide +kernel
theorem dX8_draft_8 : decode cX8_draft 8 = .ok (.ifCond .ne 13, 3) := by decide +kernel
theorem dX8_draft_11 : decode cX8_draft 11 = .ok (.new 95, 3) := by decide +kernel
theorem dX8_draft_14 : decode cX8_draft 14 = .ok (.dup, 1) := by decide +kernel
theorem dX8_draft_15 : decode cX8_draft 15 = .ok (.ldc 97, 2) := by decide +kernel
theorem dX8_draft_17 : decode cX8_draft 17 = .ok (.invokespecial 99, 3) := by decide +kernel
theorem dX8_draft_20 : decode cX8_draft 20 = .ok (.athrow, 1) := by decide +kernel
theorem dX8_draft_21 : decode cX8_draft 21 = .ok (.aload_n 0, 1) := by decide +kernel
theorem dX8_draft_22 : decode cX8_draft 22 = .ok (.getfield 28, 3) := by decide +kernel
theorem dX8_draft_25 : decode cX8_draft 25 = .ok (.iload_n 1, 1) := by decide +kernel
theorem dX8_draft_26 : decode cX8_draft 26 = .ok (.invokevirtual 193, 3) := by decide +kernel
theorem dX8_draft_29 : decode cX8_draft 29 = .ok (.ifCond .ne 13, 3) := by decide +kernel
theorem dX8_draft_32 : decode cX8_draft 32 = .ok (.new 83, 3) := by decide +kernel
theorem dX8_draft_35 : decode cX8_draft 35 = .ok (.dup, 1) := by decide +kernel
theorem dX8_draft_36 : decode cX8_draft 36 = .ok (.ldc 196, 2) := by decide +kernel
theorem dX8_draft_38 : decode cX8_draft 38 = .ok (.invokespecial 87, 3) := by decide +kernel
theorem dX8_draft_41 : decode cX8_draft 41 = .ok (.athrow, 1) := by decide +kernel
theorem dX8_draft_42 : decode cX8_draft 42 = .ok (.aload_n 0, 1) := by decide +kernel
theorem dX8_draft_43 : decode cX8_draft 43 = .ok (.getfield 28, 3) := by decide +kernel
theorem dX8_draft_46 : decode cX8_draft 46 = .ok (.getfield 198, 3) := by decide +kernel
theorem dX8_draft_49 : decode cX8_draft 49 = .ok (.ireturn, 1) := by decide +kernel
theorem dX8_words_0 : decode cX8_words 0 = .ok (.aload_n 0, 1) := by decide +kernel
theorem dX8_words_1 : decode cX8_words 1 = .ok (.getfield 35, 3) := by decide +kernel
theorem dX8_words_4 : decode cX8_words 4 = .ok (.iload_n 1, 1) := by decide +kernel
theorem dX8_words_5 : decode cX8_words 5 = .ok (.invokevirtual 138, 3) := by decide +kernel
theorem dX8_words_8 : decode cX8_words 8 = .ok (.astore_n 3, 1) := by decide +kernel
theorem dX8_words_9 : decode cX8_words 9 = .ok (.aload_n 3, 1) := by decide +kernel
theorem dX8_words_10 : decode cX8_words 10 = .ok (.ifnonnull 13, 3) := by decide +kernel
theorem dX8_words_13 : decode cX8_words 13 = .ok (.new 95, 3) := by decide +kernel
theorem dX8_words_16 : decode cX8_words 16 = .ok (.dup, 1) := by decide +kernel
theorem dX8_words_17 : decode cX8_words 17 = .ok (.ldc 142, 2) := by decide +kernel
theorem dX8_words_19 : decode cX8_words 19 = .ok (.invokespecial 99, 3) := by decide +kernel
theorem dX8_words_22 : decode cX8_words 22 = .ok (.athrow, 1) := by decide +kernel
theorem dX8_words_23 : decode cX8_words 23 = .ok (.aload_n 0, 1) := by decide +kernel
theorem dX8_words_24 : decode cX8_words 24 = .ok (.getfield 21, 3) := by decide +kernel
theorem dX8_words_27 : decode cX8_words 27 = .ok (.aload_n 0, 1) := by decide +kernel
theorem dX8_words_28 : decode cX8_words 28 = .ok (.getfield 28, 3) := by decide +kernel
theorem dX8_words_31 : decode cX8_words 31 = .ok (.aload_n 3, 1) := by decide +kernel
theorem dX8_words_32 : decode cX8_words 32 = .ok (.getfield 174, 3) := by decide +kernel
theorem dX8_words_35 : decode cX8_words 35 = .ok (.aload_n 0, 1) := by decide +kernel
theorem dX8_words_36 : decode cX8_words 36 = .ok (.aload_n 3, 1) := by decide +kernel
theorem dX8_words_37 : decode cX8_words 37 = .ok (.invokevirtual 186, 3) := by decide +kernel
theorem dX8_words_40 : decode cX8_words 40 = .ok (.iload_n 2, 1) := by decide +kernel
theorem dX8_words_41 : decode cX8_words 41 = .ok (.invokevirtual 201, 3) := by decide +kernel
theorem dX8_words_44 : decode cX8_words 44 = .ok (.aload_n 0, 1) := by decide +kernel
theorem dX8_words_45 : decode cX8_words 45 = .ok (.getfield 21, 3) := by decide +kernel
theorem dX8_words_48 : decode cX8_words 48 = .ok (.getfield 205, 3) := by decide +kernel
theorem dX8_words_51 : decode cX8_words 51 = .ok (.ireturn, 1) := by decide +kernel
theorem dX8_send_0 : decode cX8_send 0 = .ok (.aload_n 0, 1) := by decide +kernel
theorem dX8_send_1 : decode cX8_send 1 = .ok (.getfield 35, 3) := by decide +kernel
theorem dX8_send_4 : decode cX8_send 4 = .ok (.iload_n 1, 1) := by decide +kernel
theorem dX8_send_5 : decode cX8_send 5 = .ok (.invokevirtual 138, 3) := by decide +kernel
theorem dX8_send_8 : decode cX8_send 8 = .ok (.astore 5, 2) := by decide +kernel
theorem dX8_send_10 : decode cX8_send 10 = .ok (.aload 5, 2) := by decide +kernel
theorem dX8_send_12 : decode cX8_send 12 = .ok (.ifnull 14, 3) := by decide +kernel
theorem dX8_send_15 : decode cX8_send 15 = .ok (.aload_n 0, 1) := by decide +kernel
theorem dX8_send_16 : decode cX8_send 16 = .ok (.getfield 35, 3) := by decide +kernel
theorem dX8_send_19 : decode cX8_send 19 = .ok (.iload_n 2, 1) := by decide +kernel
theorem dX8_send_20 : decode cX8_send 20 = .ok (.invokevirtual 138, 3) := by decide +kernel
theorem dX8_send_23 : decode cX8_send 23 = .ok (.ifnonnull 13, 3) := by decide +kernel
theorem dX8_send_26 : decode cX8_send 26 = .ok (.new 95, 3) := by decide +kernel
theorem dX8_send_29 : decode cX8_send 29 = .ok (.dup, 1) := by decide +kernel
theorem dX8_send_30 : decode cX8_send 30 = .ok (.ldc 142, 2) := by decide +kernel
theorem dX8_send_32 : decode cX8_send 32 = .ok (.invokespecial 99, 3) := by decide +kernel
theorem dX8_send_35 : decode cX8_send 35 = .ok (.athrow, 1) := by decide +kernel
theorem dX8_send_36 : decode cX8_send 36 = .ok (.iload_n 1, 1) := by decide +kernel
theorem dX8_send_37 : decode cX8_send 37 = .ok (.iload_n 2, 1) := by decide +kernel
theorem dX8_send_38 : decode cX8_send 38 = .ok (.if_icmp .eq 12, 3) := by decide +kernel
theorem dX8_send_41 : decode cX8_send 41 = .ok (.iload_n 3, 1) := by decide +kernel
theorem dX8_send_42 : decode cX8_send 42 = .ok (.iconst 0, 1) := by decide +kernel
theorem dX8_send_43 : decode cX8_send 43 = .ok (.iconst 2, 1) := by decide +kernel
theorem dX8_send_44 : decode cX8_send 44 = .ok (.invokestatic 68, 3) := by decide +kernel
theorem dX8_send_47 : decode cX8_send 47 = .ok (.ifCond .eq 13, 3) := by decide +kernel
theorem dX8_send_50 : decode cX8_send 50 = .ok (.new 72, 3) := by decide +kernel
theorem dX8_send_53 : decode cX8_send 53 = .ok (.dup, 1) := by decide +kernel
theorem dX8_send_54 : decode cX8_send 54 = .ok (.ldc 208, 2) := by decide +kernel
theorem dX8_send_56 : decode cX8_send 56 = .ok (.invokespecial 76, 3) := by decide +kernel
theorem dX8_send_59 : decode cX8_send 59 = .ok (.athrow, 1) := by decide +kernel
theorem dX8_send_60 : decode cX8_send 60 = .ok (.aload_n 0, 1) := by decide +kernel
theorem dX8_send_61 : decode cX8_send 61 = .ok (.getfield 28, 3) := by decide +kernel
theorem dX8_send_64 : decode cX8_send 64 = .ok (.getfield 198, 3) := by decide +kernel
theorem dX8_send_67 : decode cX8_send 67 = .ok (.ifCond .eq 27, 3) := by decide +kernel
theorem dX8_send_70 : decode cX8_send 70 = .ok (.aload_n 0, 1) := by decide +kernel
theorem dX8_send_71 : decode cX8_send 71 = .ok (.getfield 62, 3) := by decide +kernel
theorem dX8_send_74 : decode cX8_send 74 = .ok (.aload_n 0, 1) := by decide +kernel
theorem dX8_send_75 : decode cX8_send 75 = .ok (.getfield 54, 3) := by decide +kernel
theorem dX8_send_78 : decode cX8_send 78 = .ok (.arraylength, 1) := by decide +kernel
theorem dX8_send_79 : decode cX8_send 79 = .ok (.if_icmp .ge 15, 3) := by decide +kernel
theorem dX8_send_82 : decode cX8_send 82 = .ok (.aload_n 0, 1) := by decide +kernel
theorem dX8_send_83 : decode cX8_send 83 = .ok (.getfield 35, 3) := by decide +kernel
theorem dX8_send_86 : decode cX8_send 86 = .ok (.iload_n 1, 1) := by decide +kernel
theorem dX8_send_87 : decode cX8_send 87 = .ok (.iload_n 2, 1) := by decide +kernel
theorem dX8_send_88 : decode cX8_send 88 = .ok (.invokevirtual 210, 3) := by decide +kernel
theorem dX8_send_91 : decode cX8_send 91 = .ok (.ifCond .ne 13, 3) := by decide +kernel
theorem dX8_send_94 : decode cX8_send 94 = .ok (.new 83, 3) := by decide +kernel
theorem dX8_send_97 : decode cX8_send 97 = .ok (.dup, 1) := by decide +kernel
theorem dX8_send_98 : decode cX8_send 98 = .ok (.ldc 214, 2) := by decide +kernel
theorem dX8_send_100 : decode cX8_send 100 = .ok (.invokespecial 87, 3) := by decide +kernel
theorem dX8_send_103 : decode cX8_send 103 = .ok (.athrow, 1) := by decide +kernel
theorem dX8_send_104 : decode cX8_send 104 = .ok (.aload_n 0, 1) := by decide +kernel
theorem dX8_send_105 : decode cX8_send 105 = .ok (.getfield 21, 3) := by decide +kernel
theorem dX8_send_108 : decode cX8_send 108 = .ok (.aload_n 0, 1) := by decide +kernel
theorem dX8_send_109 : decode cX8_send 109 = .ok (.getfield 28, 3) := by decide +kernel
theorem dX8_send_112 : decode cX8_send 112 = .ok (.aload 5, 2) := by decide +kernel
theorem dX8_send_114 : decode cX8_send 114 = .ok (.getfield 174, 3) := by decide +kernel
theorem dX8_send_117 : decode cX8_send 117 = .ok (.aload_n 0, 1) := by decide +kernel
theorem dX8_send_118 : decode cX8_send 118 = .ok (.aload 5, 2) := by decide +kernel
theorem dX8_send_120 : decode cX8_send 120 = .ok (.invokevirtual 186, 3) := by decide +kernel
theorem dX8_send_123 : decode cX8_send 123 = .ok (.iload 4, 2) := by decide +kernel
theorem dX8_send_125 : decode cX8_send 125 = .ok (.invokevirtual 201, 3) := by decide +kernel
theorem dX8_send_128 : decode cX8_send 128 = .ok (.new 52, 3) := by decide +kernel
theorem dX8_send_131 : decode cX8_send 131 = .ok (.dup, 1) := by decide +kernel
theorem dX8_send_132 : decode cX8_send 132 = .ok (.iload_n 1, 1) := by decide +kernel
theorem dX8_send_133 : decode cX8_send 133 = .ok (.iload_n 2, 1) := by decide +kernel
theorem dX8_send_134 : decode cX8_send 134 = .ok (.iload_n 3, 1) := by decide +kernel
theorem dX8_send_135 : decode cX8_send 135 = .ok (.aload_n 0, 1) := by decide +kernel
theorem dX8_send_136 : decode cX8_send 136 = .ok (.getfield 21, 3) := by decide +kernel
theorem dX8_send_139 : decode cX8_send 139 = .ok (.aload_n 0, 1) := by decide +kernel
theorem dX8_send_140 : decode cX8_send 140 = .ok (.getfield 35, 3) := by decide +kernel
theorem dX8_send_143 : decode cX8_send 143 = .ok (.invokespecial 216, 3) := by decide +kernel
theorem dX8_send_146 : decode cX8_send 146 = .ok (.astore 6, 2) := by decide +kernel
theorem dX8_send_148 : decode cX8_send 148 = .ok (.aload_n 0, 1) := by decide +kernel
theorem dX8_send_149 : decode cX8_send 149 = .ok (.getfield 54, 3) := by decide +kernel
theorem dX8_send_152 : decode cX8_send 152 = .ok (.aload_n 0, 1) := by decide +kernel
theorem dX8_send_153 : decode cX8_send 153 = .ok (.getfield 62, 3) := by decide +kernel
theorem dX8_send_156 : decode cX8_send 156 = .ok (.aload 6, 2) := by decide +kernel
theorem dX8_send_158 : decode cX8_send 158 = .ok (.aastore, 1) := by decide +kernel
theorem dX8_send_159 : decode cX8_send 159 = .ok (.aload_n 0, 1) := by decide +kernel
theorem dX8_send_160 : decode cX8_send 160 = .ok (.dup, 1) := by decide +kernel
theorem dX8_send_161 : decode cX8_send 161 = .ok (.getfield 62, 3) := by decide +kernel
theorem dX8_send_164 : decode cX8_send 164 = .ok (.iconst 1, 1) := by decide +kernel
theorem dX8_send_165 : decode cX8_send 165 = .ok (.iadd, 1) := by decide +kernel
theorem dX8_send_166 : decode cX8_send 166 = .ok (.putfield 62, 3) := by decide +kernel
theorem dX8_send_169 : decode cX8_send 169 = .ok (.aload_n 0, 1) := by decide +kernel
theorem dX8_send_170 : decode cX8_send 170 = .ok (.getfield 28, 3) := by decide +kernel
theorem dX8_send_173 : decode cX8_send 173 = .ok (.iconst 0, 1) := by decide +kernel
theorem dX8_send_174 : decode cX8_send 174 = .ok (.putfield 198, 3) := by decide +kernel
theorem dX8_send_177 : decode cX8_send 177 = .ok (.aload_n 0, 1) := by decide +kernel
theorem dX8_send_178 : decode cX8_send 178 = .ok (.aload 6, 2) := by decide +kernel
theorem dX8_send_180 : decode cX8_send 180 = .ok (.invokevirtual 219, 3) := by decide +kernel
theorem dX8_send_183 : decode cX8_send 183 = .ok (.aload_n 0, 1) := by decide +kernel
theorem dX8_send_184 : decode cX8_send 184 = .ok (.aload 6, 2) := by decide +kernel
theorem dX8_send_186 : decode cX8_send 186 = .ok (.iload_n 1, 1) := by decide +kernel
theorem dX8_send_187 : decode cX8_send 187 = .ok (.invokevirtual 223, 3) := by decide +kernel
theorem dX8_send_190 : decode cX8_send 190 = .ok (.aload_n 0, 1) := by decide +kernel
theorem dX8_send_191 : decode cX8_send 191 = .ok (.getfield 62, 3) := by decide +kernel
theorem dX8_send_194 : decode cX8_send 194 = .ok (.iconst 1, 1) := by decide +kernel
theorem dX8_send_195 : decode cX8_send 195 = .ok (.isub, 1) := by decide +kernel
theorem dX8_send_196 : decode cX8_send 196 = .ok (.ireturn, 1) := by decide +kernel
theorem dX8_wrong_0 : decode cX8_wrong 0 = .ok (.aload_n 0, 1) := by decide +kernel
theorem dX8_wrong_1 : decode cX8_wrong 1 = .ok (.iload_n 1, 1) := by decide +kernel
theorem dX8_wrong_2 : decode cX8_wrong 2 = .ok (.invokevirtual 227, 3) := by decide +kernel
theorem dX8_wrong_5 : decode cX8_wrong 5 = .ok (.astore 5, 2) := by decide +kernel
theorem dX8_wrong_7 : decode cX8_wrong 7 = .ok (.aload 5, 2) := by decide +kernel
theorem dX8_wrong_9 : decode cX8_wrong 9 = .ok (.ifnull 12, 3) := by decide +kernel
theorem dX8_wrong_12 : decode cX8_wrong 12 = .ok (.aload 5, 2) := by decide +kernel
theorem dX8_wrong_14 : decode cX8_wrong 14 = .ok (.iload_n 2, 1) := by decide +kernel
theorem dX8_wrong_15 : decode cX8_wrong 15 = .ok (.invokevirtual 231, 3) := by decide +kernel
theorem dX8_wrong_18 : decode cX8_wrong 18 = .ok (.ifCond .ne 13, 3) := by decide +kernel
theorem dX8_wrong_21 : decode cX8_wrong 21 = .ok (.new 95, 3) := by decide +kernel
theorem dX8_wrong_24 : decode cX8_wrong 24 = .ok (.dup, 1) := by decide +kernel
theorem dX8_wrong_25 : decode cX8_wrong 25 = .ok (.ldc 234, 2) := by decide +kernel
theorem dX8_wrong_27 : decode cX8_wrong 27 = .ok (.invokespecial 99, 3) := by decide +kernel
theorem dX8_wrong_30 : decode cX8_wrong 30 = .ok (.athrow, 1) := by decide +kernel
theorem dX8_wrong_31 : decode cX8_wrong 31 = .ok (.iload_n 3, 1) := by decide +kernel
theorem dX8_wrong_32 : decode cX8_wrong 32 = .ok (.iconst 0, 1) := by decide +kernel
theorem dX8_wrong_33 : decode cX8_wrong 33 = .ok (.iconst 4, 1) := by decide +kernel
theorem dX8_wrong_34 : decode cX8_wrong 34 = .ok (.invokestatic 68, 3) := by decide +kernel
theorem dX8_wrong_37 : decode cX8_wrong 37 = .ok (.ifCond .ne 14, 3) := by decide +kernel
theorem dX8_wrong_40 : decode cX8_wrong 40 = .ok (.iload 4, 2) := by decide +kernel
theorem dX8_wrong_42 : decode cX8_wrong 42 = .ok (.iconst 0, 1) := by decide +kernel
theorem dX8_wrong_43 : decode cX8_wrong 43 = .ok (.bipush 25, 2) := by decide +kernel
theorem dX8_wrong_45 : decode cX8_wrong 45 = .ok (.invokestatic 68, 3) := by decide +kernel
theorem dX8_wrong_48 : decode cX8_wrong 48 = .ok (.ifCond .eq 13, 3) := by decide +kernel
theorem dX8_wrong_51 : decode cX8_wrong 51 = .ok (.new 72, 3) := by decide +kernel
theorem dX8_wrong_54 : decode cX8_wrong 54 = .ok (.dup, 1) := by decide +kernel
theorem dX8_wrong_55 : decode cX8_wrong 55 = .ok (.ldc 236, 2) := by decide +kernel
theorem dX8_wrong_57 : decode cX8_wrong 57 = .ok (.invokespecial 76, 3) := by decide +kernel
theorem dX8_wrong_60 : decode cX8_wrong 60 = .ok (.athrow, 1) := by decide +kernel
theorem dX8_wrong_61 : decode cX8_wrong 61 = .ok (.aload 5, 2) := by decide +kernel
theorem dX8_wrong_63 : decode cX8_wrong 63 = .ok (.getfield 238, 3) := by decide +kernel
theorem dX8_wrong_66 : decode cX8_wrong 66 = .ok (.ifCond .ne 15, 3) := by decide +kernel
theorem dX8_wrong_69 : decode cX8_wrong 69 = .ok (.aload 5, 2) := by decide +kernel
theorem dX8_wrong_71 : decode cX8_wrong 71 = .ok (.iload_n 2, 1) := by decide +kernel
theorem dX8_wrong_72 : decode cX8_wrong 72 = .ok (.invokevirtual 241, 3) := by decide +kernel
theorem dX8_wrong_75 : decode cX8_wrong 75 = .ok (.invokestatic 244, 3) := by decide +kernel
theorem dX8_wrong_78 : decode cX8_wrong 78 = .ok (.ifCond .ne 13, 3) := by decide +kernel
theorem dX8_wrong_81 : decode cX8_wrong 81 = .ok (.new 83, 3) := by decide +kernel
theorem dX8_wrong_84 : decode cX8_wrong 84 = .ok (.dup, 1) := by decide +kernel
theorem dX8_wrong_85 : decode cX8_wrong 85 = .ok (.ldc 247, 2) := by decide +kernel
theorem dX8_wrong_87 : decode cX8_wrong 87 = .ok (.invokespecial 87, 3) := by decide +kernel
theorem dX8_wrong_90 : decode cX8_wrong 90 = .ok (.athrow, 1) := by decide +kernel
theorem dX8_wrong_91 : decode cX8_wrong 91 = .ok (.aload 5, 2) := by decide +kernel
theorem dX8_wrong_93 : decode cX8_wrong 93 = .ok (.iload_n 2, 1) := by decide +kernel
theorem dX8_wrong_94 : decode cX8_wrong 94 = .ok (.aload 5, 2) := by decide +kernel
theorem dX8_wrong_96 : decode cX8_wrong 96 = .ok (.iload_n 2, 1) := by decide +kernel
theorem dX8_wrong_97 : decode cX8_wrong 97 = .ok (.invokevirtual 241, 3) := by decide +kernel
theorem dX8_wrong_100 : decode cX8_wrong 100 = .ok (.iload_n 3, 1) := by decide +kernel
theorem dX8_wrong_101 : decode cX8_wrong 101 = .ok (.iload 4, 2) := by decide +kernel
theorem dX8_wrong_103 : decode cX8_wrong 103 = .ok (.invokestatic 249, 3) := by decide +kernel
theorem dX8_wrong_106 : decode cX8_wrong 106 = .ok (.invokevirtual 253, 3) := by decide +kernel
theorem dX8_wrong_109 : decode cX8_wrong 109 = .ok (.aload 5, 2) := by decide +kernel
theorem dX8_wrong_111 : decode cX8_wrong 111 = .ok (.iload_n 2, 1) := by decide +kernel
theorem dX8_wrong_112 : decode cX8_wrong 112 = .ok (.invokevirtual 241, 3) := by decide +kernel
theorem dX8_wrong_115 : decode cX8_wrong 115 = .ok (.ireturn, 1) := by decide +kernel
theorem dX8_pass_0 : decode cX8_pass 0 = .ok (.iload_n 1, 1) := by decide +kernel
theorem dX8_pass_1 : decode cX8_pass 1 = .ok (.iconst 1, 1) := by decide +kernel
theorem dX8_pass_2 : decode cX8_pass 2 = .ok (.bipush 60, 2) := by decide +kernel
theorem dX8_pass_4 : decode cX8_pass 4 = .ok (.invokestatic 68, 3) := by decide +kernel
theorem dX8_pass_7 : decode cX8_pass 7 = .ok (.ifCond .eq 14, 3) := by decide +kernel
theorem dX8_pass_10 : decode cX8_pass 10 = .ok (.new 72, 3) := by decide +kernel
theorem dX8_pass_13 : decode cX8_pass 13 = .ok (.dup, 1) := by decide +kernel
theorem dX8_pass_14 : decode cX8_pass 14 = .ok (.ldc_w 257, 3) := by decide +kernel
theorem dX8_pass_17 : decode cX8_pass 17 = .ok (.invokespecial 76, 3) := by decide +kernel
theorem dX8_pass_20 : decode cX8_pass 20 = .ok (.athrow, 1) := by decide +kernel
theorem dX8_pass_21 : decode cX8_pass 21 = .ok (.aload_n 0, 1) := by decide +kernel
theorem dX8_pass_22 : decode cX8_pass 22 = .ok (.getfield 65, 3) := by decide +kernel
theorem dX8_pass_25 : decode cX8_pass 25 = .ok (.iload_n 1, 1) := by decide +kernel
theorem dX8_pass_26 : decode cX8_pass 26 = .ok (.iadd, 1) := by decide +kernel
theorem dX8_pass_27 : decode cX8_pass 27 = .ok (.ldc_w 259, 3) := by decide +kernel
theorem dX8_pass_30 : decode cX8_pass 30 = .ok (.if_icmp .le 14, 3) := by decide +kernel
theorem dX8_pass_33 : decode cX8_pass 33 = .ok (.new 83, 3) := by decide +kernel
theorem dX8_pass_36 : decode cX8_pass 36 = .ok (.dup, 1) := by decide +kernel
theorem dX8_pass_37 : decode cX8_pass 37 = .ok (.ldc_w 260, 3) := by decide +kernel
theorem dX8_pass_40 : decode cX8_pass 40 = .ok (.invokespecial 87, 3) := by decide +kernel
theorem dX8_pass_43 : decode cX8_pass 43 = .ok (.athrow, 1) := by decide +kernel
theorem dX8_pass_44 : decode cX8_pass 44 = .ok (.iconst 0, 1) := by decide +kernel
theorem dX8_pass_45 : decode cX8_pass 45 = .ok (.istore_n 2, 1) := by decide +kernel
theorem dX8_pass_46 : decode cX8_pass 46 = .ok (.iload_n 2, 1) := by decide +kernel
theorem dX8_pass_47 : decode cX8_pass 47 = .ok (.iload_n 1, 1) := by decide +kernel
theorem dX8_pass_48 : decode cX8_pass 48 = .ok (.if_icmp .ge 20, 3) := by decide +kernel
theorem dX8_pass_51 : decode cX8_pass 51 = .ok (.aload_n 0, 1) := by decide +kernel
theorem dX8_pass_52 : decode cX8_pass 52 = .ok (.invokevirtual 262, 3) := by decide +kernel
theorem dX8_pass_55 : decode cX8_pass 55 = .ok (.ifCond .eq 13, 3) := by decide +kernel
theorem dX8_pass_58 : decode cX8_pass 58 = .ok (.aload_n 0, 1) := by decide +kernel
theorem dX8_pass_59 : decode cX8_pass 59 = .ok (.invokevirtual 266, 3) := by decide +kernel
theorem dX8_pass_62 : decode cX8_pass 62 = .ok (.iinc 2 1, 3) := by decide +kernel
theorem dX8_pass_65 : decode cX8_pass 65 = .ok (.goto (-19), 3) := by decide +kernel
theorem dX8_pass_68 : decode cX8_pass 68 = .ok (.aload_n 0, 1) := by decide +kernel
theorem dX8_pass_69 : decode cX8_pass 69 = .ok (.dup, 1) := by decide +kernel
theorem dX8_pass_70 : decode cX8_pass 70 = .ok (.getfield 65, 3) := by decide +kernel
theorem dX8_pass_73 : decode cX8_pass 73 = .ok (.iload_n 1, 1) := by decide +kernel
theorem dX8_pass_74 : decode cX8_pass 74 = .ok (.iadd, 1) := by decide +kernel
theorem dX8_pass_75 : decode cX8_pass 75 = .ok (.putfield 65, 3) := by decide +kernel
theorem dX8_pass_78 : decode cX8_pass 78 = .ok (.aload_n 0, 1) := by decide +kernel
theorem dX8_pass_79 : decode cX8_pass 79 = .ok (.getfield 65, 3) := by decide +kernel
theorem dX8_pass_82 : decode cX8_pass 82 = .ok (.ireturn, 1) := by decide +kernel
theorem dX8_rest_0 : decode cX8_rest 0 = .ok (.iload_n 1, 1) := by decide +kernel
theorem dX8_rest_1 : decode cX8_rest 1 = .ok (.iconst 1, 1) := by decide +kernel
theorem dX8_rest_2 : decode cX8_rest 2 = .ok (.bipush 100, 2) := by decide +kernel
theorem dX8_rest_4 : decode cX8_rest 4 = .ok (.invokestatic 68, 3) := by decide +kernel
theorem dX8_rest_7 : decode cX8_rest 7 = .ok (.ifCond .eq 14, 3) := by decide +kernel
theorem dX8_rest_10 : decode cX8_rest 10 = .ok (.new 72, 3) := by decide +kernel
theorem dX8_rest_13 : decode cX8_rest 13 = .ok (.dup, 1) := by decide +kernel
theorem dX8_rest_14 : decode cX8_rest 14 = .ok (.ldc_w 269, 3) := by decide +kernel
theorem dX8_rest_17 : decode cX8_rest 17 = .ok (.invokespecial 76, 3) := by decide +kernel
theorem dX8_rest_20 : decode cX8_rest 20 = .ok (.athrow, 1) := by decide +kernel
theorem dX8_rest_21 : decode cX8_rest 21 = .ok (.aload_n 0, 1) := by decide +kernel
theorem dX8_rest_22 : decode cX8_rest 22 = .ok (.getfield 65, 3) := by decide +kernel
theorem dX8_rest_25 : decode cX8_rest 25 = .ok (.iload_n 1, 1) := by decide +kernel
theorem dX8_rest_26 : decode cX8_rest 26 = .ok (.sipush 1440, 3) := by decide +kernel
theorem dX8_rest_29 : decode cX8_rest 29 = .ok (.imul, 1) := by decide +kernel
theorem dX8_rest_30 : decode cX8_rest 30 = .ok (.iadd, 1) := by decide +kernel
theorem dX8_rest_31 : decode cX8_rest 31 = .ok (.ldc_w 259, 3) := by decide +kernel
theorem dX8_rest_34 : decode cX8_rest 34 = .ok (.if_icmp .le 14, 3) := by decide +kernel
theorem dX8_rest_37 : decode cX8_rest 37 = .ok (.new 83, 3) := by decide +kernel
theorem dX8_rest_40 : decode cX8_rest 40 = .ok (.dup, 1) := by decide +kernel
theorem dX8_rest_41 : decode cX8_rest 41 = .ok (.ldc_w 260, 3) := by decide +kernel
theorem dX8_rest_44 : decode cX8_rest 44 = .ok (.invokespecial 87, 3) := by decide +kernel
theorem dX8_rest_47 : decode cX8_rest 47 = .ok (.athrow, 1) := by decide +kernel
theorem dX8_rest_48 : decode cX8_rest 48 = .ok (.aload_n 0, 1) := by decide +kernel
theorem dX8_rest_49 : decode cX8_rest 49 = .ok (.dup, 1) := by decide +kernel
theorem dX8_rest_50 : decode cX8_rest 50 = .ok (.getfield 65, 3) := by decide +kernel
theorem dX8_rest_53 : decode cX8_rest 53 = .ok (.iload_n 1, 1) := by decide +kernel
theorem dX8_rest_54 : decode cX8_rest 54 = .ok (.sipush 1440, 3) := by decide +kernel
theorem dX8_rest_57 : decode cX8_rest 57 = .ok (.imul, 1) := by decide +kernel
theorem dX8_rest_58 : decode cX8_rest 58 = .ok (.iadd, 1) := by decide +kernel
theorem dX8_rest_59 : decode cX8_rest 59 = .ok (.putfield 65, 3) := by decide +kernel
theorem dX8_rest_62 : decode cX8_rest 62 = .ok (.aload_n 0, 1) := by decide +kernel
theorem dX8_rest_63 : decode cX8_rest 63 = .ok (.getfield 65, 3) := by decide +kernel
theorem dX8_rest_66 : decode cX8_rest 66 = .ok (.ireturn, 1) := by decide +kernel
theorem dX8_ofMessage_0 : decode cX8_ofMessage 0 = .ok (.aload_n 0, 1) := by decide +kernel
theorem dX8_ofMessage_1 : decode cX8_ofMessage 1 = .ok (.iload_n 1, 1) := by decide +kernel
theorem dX8_ofMessage_2 : decode cX8_ofMessage 2 = .ok (.invokevirtual 227, 3) := by decide +kernel
theorem dX8_ofMessage_5 : decode cX8_ofMessage 5 = .ok (.astore_n 3, 1) := by decide +kernel
theorem dX8_ofMessage_6 : decode cX8_ofMessage 6 = .ok (.aload_n 3, 1) := by decide +kernel
theorem dX8_ofMessage_7 : decode cX8_ofMessage 7 = .ok (.ifnonnull 14, 3) := by decide +kernel
theorem dX8_ofMessage_10 : decode cX8_ofMessage 10 = .ok (.new 95, 3) := by decide +kernel
theorem dX8_ofMessage_13 : decode cX8_ofMessage 13 = .ok (.dup, 1) := by decide +kernel
theorem dX8_ofMessage_14 : decode cX8_ofMessage 14 = .ok (.ldc_w 271, 3) := by decide +kernel
theorem dX8_ofMessage_17 : decode cX8_ofMessage 17 = .ok (.invokespecial 99, 3) := by decide +kernel
theorem dX8_ofMessage_20 : decode cX8_ofMessage 20 = .ok (.athrow, 1) := by decide +kernel
theorem dX8_ofMessage_21 : decode cX8_ofMessage 21 = .ok (.iload_n 2, 1) := by decide +kernel
theorem dX8_ofMessage_22 : decode cX8_ofMessage 22 = .ok (.tableswitch 81 0 5 #[38, 43, 49, 54, 59, 64], 38) := by decide +kernel
theorem dX8_ofMessage_60 : decode cX8_ofMessage 60 = .ok (.aload_n 3, 1) := by decide +kernel
theorem dX8_ofMessage_61 : decode cX8_ofMessage 61 = .ok (.getfield 238, 3) := by decide +kernel
theorem dX8_ofMessage_64 : decode cX8_ofMessage 64 = .ok (.ireturn, 1) := by decide +kernel
theorem dX8_ofMessage_65 : decode cX8_ofMessage 65 = .ok (.aload_n 3, 1) := by decide +kernel
theorem dX8_ofMessage_66 : decode cX8_ofMessage 66 = .ok (.getfield 273, 3) := by decide +kernel
theorem dX8_ofMessage_69 : decode cX8_ofMessage 69 = .ok (.arraylength, 1) := by decide +kernel
theorem dX8_ofMessage_70 : decode cX8_ofMessage 70 = .ok (.ireturn, 1) := by decide +kernel
theorem dX8_ofMessage_71 : decode cX8_ofMessage 71 = .ok (.aload_n 3, 1) := by decide +kernel
theorem dX8_ofMessage_72 : decode cX8_ofMessage 72 = .ok (.getfield 277, 3) := by decide +kernel
theorem dX8_ofMessage_75 : decode cX8_ofMessage 75 = .ok (.ireturn, 1) := by decide +kernel
theorem dX8_ofMessage_76 : decode cX8_ofMessage 76 = .ok (.aload_n 3, 1) := by decide +kernel
theorem dX8_ofMessage_77 : decode cX8_ofMessage 77 = .ok (.getfield 278, 3) := by decide +kernel
theorem dX8_ofMessage_80 : decode cX8_ofMessage 80 = .ok (.ireturn, 1) := by decide +kernel
theorem dX8_ofMessage_81 : decode cX8_ofMessage 81 = .ok (.aload_n 3, 1) := by decide +kernel
theorem dX8_ofMessage_82 : decode cX8_ofMessage 82 = .ok (.invokevirtual 281, 3) := by decide +kernel
theorem dX8_ofMessage_85 : decode cX8_ofMessage 85 = .ok (.ireturn, 1) := by decide +kernel
theorem dX8_ofMessage_86 : decode cX8_ofMessage 86 = .ok (.aload_n 3, 1) := by decide +kernel
theorem dX8_ofMessage_87 : decode cX8_ofMessage 87 = .ok (.getfield 238, 3) := by decide +kernel
theorem dX8_ofMessage_90 : decode cX8_ofMessage 90 = .ok (.iconst 2, 1) := by decide +kernel
theorem dX8_ofMessage_91 : decode cX8_ofMessage 91 = .ok (.if_icmp .ne 10, 3) := by decide +kernel
theorem dX8_ofMessage_94 : decode cX8_ofMessage 94 = .ok (.aload_n 3, 1) := by decide +kernel
theorem dX8_ofMessage_95 : decode cX8_ofMessage 95 = .ok (.getfield 284, 3) := by decide +kernel
theorem dX8_ofMessage_98 : decode cX8_ofMessage 98 = .ok (.goto 4, 3) := by decide +kernel
theorem dX8_ofMessage_101 : decode cX8_ofMessage 101 = .ok (.iconst (-1), 1) := by decide +kernel
theorem dX8_ofMessage_102 : decode cX8_ofMessage 102 = .ok (.ireturn, 1) := by decide +kernel
theorem dX8_ofMessage_103 : decode cX8_ofMessage 103 = .ok (.new 72, 3) := by decide +kernel
theorem dX8_ofMessage_106 : decode cX8_ofMessage 106 = .ok (.dup, 1) := by decide +kernel
theorem dX8_ofMessage_107 : decode cX8_ofMessage 107 = .ok (.ldc_w 287, 3) := by decide +kernel
theorem dX8_ofMessage_110 : decode cX8_ofMessage 110 = .ok (.invokespecial 76, 3) := by decide +kernel
theorem dX8_ofMessage_113 : decode cX8_ofMessage 113 = .ok (.athrow, 1) := by decide +kernel
theorem dX8_word_0 : decode cX8_word 0 = .ok (.aload_n 0, 1) := by decide +kernel
theorem dX8_word_1 : decode cX8_word 1 = .ok (.iload_n 1, 1) := by decide +kernel
theorem dX8_word_2 : decode cX8_word 2 = .ok (.invokevirtual 227, 3) := by decide +kernel
theorem dX8_word_5 : decode cX8_word 5 = .ok (.astore 4, 2) := by decide +kernel
theorem dX8_word_7 : decode cX8_word 7 = .ok (.aload 4, 2) := by decide +kernel
theorem dX8_word_9 : decode cX8_word 9 = .ok (.ifnull 12, 3) := by decide +kernel
theorem dX8_word_12 : decode cX8_word 12 = .ok (.aload 4, 2) := by decide +kernel
theorem dX8_word_14 : decode cX8_word 14 = .ok (.iload_n 2, 1) := by decide +kernel
theorem dX8_word_15 : decode cX8_word 15 = .ok (.invokevirtual 231, 3) := by decide +kernel
theorem dX8_word_18 : decode cX8_word 18 = .ok (.ifCond .ne 13, 3) := by decide +kernel
theorem dX8_word_21 : decode cX8_word 21 = .ok (.new 95, 3) := by decide +kernel
theorem dX8_word_24 : decode cX8_word 24 = .ok (.dup, 1) := by decide +kernel
theorem dX8_word_25 : decode cX8_word 25 = .ok (.ldc 234, 2) := by decide +kernel
theorem dX8_word_27 : decode cX8_word 27 = .ok (.invokespecial 99, 3) := by decide +kernel
theorem dX8_word_30 : decode cX8_word 30 = .ok (.athrow, 1) := by decide +kernel
theorem dX8_word_31 : decode cX8_word 31 = .ok (.iload_n 3, 1) := by decide +kernel
theorem dX8_word_32 : decode cX8_word 32 = .ok (.ifCond .eq 12, 3) := by decide +kernel
theorem dX8_word_35 : decode cX8_word 35 = .ok (.aload 4, 2) := by decide +kernel
theorem dX8_word_37 : decode cX8_word 37 = .ok (.iload_n 2, 1) := by decide +kernel
theorem dX8_word_38 : decode cX8_word 38 = .ok (.invokevirtual 289, 3) := by decide +kernel
theorem dX8_word_41 : decode cX8_word 41 = .ok (.goto 9, 3) := by decide +kernel
theorem dX8_word_44 : decode cX8_word 44 = .ok (.aload 4, 2) := by decide +kernel
theorem dX8_word_46 : decode cX8_word 46 = .ok (.iload_n 2, 1) := by decide +kernel
theorem dX8_word_47 : decode cX8_word 47 = .ok (.invokevirtual 241, 3) := by decide +kernel
theorem dX8_word_50 : decode cX8_word 50 = .ok (.ireturn, 1) := by decide +kernel
theorem dX8_read_0 : decode cX8_read 0 = .ok (.aload_n 0, 1) := by decide +kernel
theorem dX8_read_1 : decode cX8_read 1 = .ok (.iload_n 1, 1) := by decide +kernel
theorem dX8_read_2 : decode cX8_read 2 = .ok (.invokevirtual 227, 3) := by decide +kernel
theorem dX8_read_5 : decode cX8_read 5 = .ok (.astore_n 3, 1) := by decide +kernel
theorem dX8_read_6 : decode cX8_read 6 = .ok (.aload_n 3, 1) := by decide +kernel
theorem dX8_read_7 : decode cX8_read 7 = .ok (.ifnull 7, 3) := by decide +kernel
theorem dX8_read_10 : decode cX8_read 10 = .ok (.iload_n 2, 1) := by decide +kernel
theorem dX8_read_11 : decode cX8_read 11 = .ok (.ifCond .ge 14, 3) := by decide +kernel
theorem dX8_read_14 : decode cX8_read 14 = .ok (.new 95, 3) := by decide +kernel
theorem dX8_read_17 : decode cX8_read 17 = .ok (.dup, 1) := by decide +kernel
theorem dX8_read_18 : decode cX8_read 18 = .ok (.ldc_w 292, 3) := by decide +kernel
theorem dX8_read_21 : decode cX8_read 21 = .ok (.invokespecial 99, 3) := by decide +kernel
theorem dX8_read_24 : decode cX8_read 24 = .ok (.athrow, 1) := by decide +kernel
theorem dX8_read_25 : decode cX8_read 25 = .ok (.aload_n 0, 1) := by decide +kernel
theorem dX8_read_26 : decode cX8_read 26 = .ok (.getfield 35, 3) := by decide +kernel
theorem dX8_read_29 : decode cX8_read 29 = .ok (.aload_n 3, 1) := by decide +kernel
theorem dX8_read_30 : decode cX8_read 30 = .ok (.getfield 294, 3) := by decide +kernel
theorem dX8_read_33 : decode cX8_read 33 = .ok (.invokevirtual 138, 3) := by decide +kernel
theorem dX8_read_36 : decode cX8_read 36 = .ok (.astore 4, 2) := by decide +kernel
theorem dX8_read_38 : decode cX8_read 38 = .ok (.aload 4, 2) := by decide +kernel
theorem dX8_read_40 : decode cX8_read 40 = .ok (.ifnonnull 7, 3) := by decide +kernel
theorem dX8_read_43 : decode cX8_read 43 = .ok (.iconst 0, 1) := by decide +kernel
theorem dX8_read_44 : decode cX8_read 44 = .ok (.goto 8, 3) := by decide +kernel
theorem dX8_read_47 : decode cX8_read 47 = .ok (.aload 4, 2) := by decide +kernel
theorem dX8_read_49 : decode cX8_read 49 = .ok (.getfield 174, 3) := by decide +kernel
theorem dX8_read_52 : decode cX8_read 52 = .ok (.istore 5, 2) := by decide +kernel
theorem dX8_read_54 : decode cX8_read 54 = .ok (.iconst 0, 1) := by decide +kernel
theorem dX8_read_55 : decode cX8_read 55 = .ok (.istore 6, 2) := by decide +kernel
theorem dX8_read_57 : decode cX8_read 57 = .ok (.iconst 0, 1) := by decide +kernel
theorem dX8_read_58 : decode cX8_read 58 = .ok (.istore 7, 2) := by decide +kernel
theorem dX8_read_60 : decode cX8_read 60 = .ok (.iload 7, 2) := by decide +kernel
theorem dX8_read_62 : decode cX8_read 62 = .ok (.aload_n 3, 1) := by decide +kernel
theorem dX8_read_63 : decode cX8_read 63 = .ok (.getfield 297, 3) := by decide +kernel
theorem dX8_read_66 : decode cX8_read 66 = .ok (.arraylength, 1) := by decide +kernel
theorem dX8_read_67 : decode cX8_read 67 = .ok (.if_icmp .ge 127, 3) := by decide +kernel
theorem dX8_read_70 : decode cX8_read 70 = .ok (.aload_n 3, 1) := by decide +kernel
theorem dX8_read_71 : decode cX8_read 71 = .ok (.getfield 297, 3) := by decide +kernel
theorem dX8_read_74 : decode cX8_read 74 = .ok (.iload 7, 2) := by decide +kernel
theorem dX8_read_76 : decode cX8_read 76 = .ok (.iaload, 1) := by decide +kernel
theorem dX8_read_77 : decode cX8_read 77 = .ok (.istore 8, 2) := by decide +kernel
theorem dX8_read_79 : decode cX8_read 79 = .ok (.iload 8, 2) := by decide +kernel
theorem dX8_read_81 : decode cX8_read 81 = .ok (.invokestatic 244, 3) := by decide +kernel
theorem dX8_read_84 : decode cX8_read 84 = .ok (.ifCond .eq 25, 3) := by decide +kernel
theorem dX8_read_87 : decode cX8_read 87 = .ok (.aload_n 0, 1) := by decide +kernel
theorem dX8_read_88 : decode cX8_read 88 = .ok (.getfield 10, 3) := by decide +kernel
theorem dX8_read_91 : decode cX8_read 91 = .ok (.aload_n 0, 1) := by decide +kernel
theorem dX8_read_92 : decode cX8_read 92 = .ok (.getfield 10, 3) := by decide +kernel
theorem dX8_read_95 : decode cX8_read 95 = .ok (.iload 8, 2) := by decide +kernel
theorem dX8_read_97 : decode cX8_read 97 = .ok (.invokevirtual 300, 3) := by decide +kernel
theorem dX8_read_100 : decode cX8_read 100 = .ok (.iload 5, 2) := by decide +kernel
theorem dX8_read_102 : decode cX8_read 102 = .ok (.ineg, 1) := by decide +kernel
theorem dX8_read_103 : decode cX8_read 103 = .ok (.invokevirtual 303, 3) := by decide +kernel
theorem dX8_read_106 : decode cX8_read 106 = .ok (.goto 4, 3) := by decide +kernel
theorem dX8_read_109 : decode cX8_read 109 = .ok (.iconst (-1), 1) := by decide +kernel
theorem dX8_read_110 : decode cX8_read 110 = .ok (.istore 9, 2) := by decide +kernel
theorem dX8_read_112 : decode cX8_read 112 = .ok (.iload 9, 2) := by decide +kernel
theorem dX8_read_114 : decode cX8_read 114 = .ok (.iconst (-1), 1) := by decide +kernel
theorem dX8_read_115 : decode cX8_read 115 = .ok (.if_icmp .ne 7, 3) := by decide +kernel
theorem dX8_read_118 : decode cX8_read 118 = .ok (.iconst 1, 1) := by decide +kernel
theorem dX8_read_119 : decode cX8_read 119 = .ok (.goto 12, 3) := by decide +kernel
theorem dX8_read_122 : decode cX8_read 122 = .ok (.aload_n 0, 1) := by decide +kernel
theorem dX8_read_123 : decode cX8_read 123 = .ok (.getfield 10, 3) := by decide +kernel
theorem dX8_read_126 : decode cX8_read 126 = .ok (.iload 9, 2) := by decide +kernel
theorem dX8_read_128 : decode cX8_read 128 = .ok (.invokevirtual 307, 3) := by decide +kernel
theorem dX8_read_131 : decode cX8_read 131 = .ok (.istore 10, 2) := by decide +kernel
theorem dX8_read_133 : decode cX8_read 133 = .ok (.iload_n 2, 1) := by decide +kernel
theorem dX8_read_134 : decode cX8_read 134 = .ok (.iload 6, 2) := by decide +kernel
theorem dX8_read_136 : decode cX8_read 136 = .ok (.isub, 1) := by decide +kernel
theorem dX8_read_137 : decode cX8_read 137 = .ok (.iload 10, 2) := by decide +kernel
theorem dX8_read_139 : decode cX8_read 139 = .ok (.if_icmp .ge 42, 3) := by decide +kernel
theorem dX8_read_142 : decode cX8_read 142 = .ok (.iload 8, 2) := by decide +kernel
theorem dX8_read_144 : decode cX8_read 144 = .ok (.invokestatic 244, 3) := by decide +kernel
theorem dX8_read_147 : decode cX8_read 147 = .ok (.ifCond .ne 9, 3) := by decide +kernel
theorem dX8_read_150 : decode cX8_read 150 = .ok (.iload 8, 2) := by decide +kernel
theorem dX8_read_152 : decode cX8_read 152 = .ok (.invokestatic 310, 3) := by decide +kernel
theorem dX8_read_155 : decode cX8_read 155 = .ok (.ireturn, 1) := by decide +kernel
theorem dX8_read_156 : decode cX8_read 156 = .ok (.iload 9, 2) := by decide +kernel
theorem dX8_read_158 : decode cX8_read 158 = .ok (.iconst (-1), 1) := by decide +kernel
theorem dX8_read_159 : decode cX8_read 159 = .ok (.if_icmp .ne 8, 3) := by decide +kernel
theorem dX8_read_162 : decode cX8_read 162 = .ok (.bipush (-2), 2) := by decide +kernel
theorem dX8_read_164 : decode cX8_read 164 = .ok (.goto 16, 3) := by decide +kernel
theorem dX8_read_167 : decode cX8_read 167 = .ok (.aload_n 0, 1) := by decide +kernel
theorem dX8_read_168 : decode cX8_read 168 = .ok (.getfield 10, 3) := by decide +kernel
theorem dX8_read_171 : decode cX8_read 171 = .ok (.iload 9, 2) := by decide +kernel
theorem dX8_read_173 : decode cX8_read 173 = .ok (.iload_n 2, 1) := by decide +kernel
theorem dX8_read_174 : decode cX8_read 174 = .ok (.iload 6, 2) := by decide +kernel
theorem dX8_read_176 : decode cX8_read 176 = .ok (.isub, 1) := by decide +kernel
theorem dX8_read_177 : decode cX8_read 177 = .ok (.invokevirtual 313, 3) := by decide +kernel
theorem dX8_read_180 : decode cX8_read 180 = .ok (.ireturn, 1) := by decide +kernel
theorem dX8_read_181 : decode cX8_read 181 = .ok (.iload 6, 2) := by decide +kernel
theorem dX8_read_183 : decode cX8_read 183 = .ok (.iload 10, 2) := by decide +kernel
theorem dX8_read_185 : decode cX8_read 185 = .ok (.iadd, 1) := by decide +kernel
theorem dX8_read_186 : decode cX8_read 186 = .ok (.istore 6, 2) := by decide +kernel
theorem dX8_read_188 : decode cX8_read 188 = .ok (.iinc 7 1, 3) := by decide +kernel
theorem dX8_read_191 : decode cX8_read 191 = .ok (.goto (-131), 3) := by decide +kernel
theorem dX8_read_194 : decode cX8_read 194 = .ok (.iconst (-1), 1) := by decide +kernel
theorem dX8_read_195 : decode cX8_read 195 = .ok (.ireturn, 1) := by decide +kernel
theorem dX8_claim_0 : decode cX8_claim 0 = .ok (.aload_n 0, 1) := by decide +kernel
theorem dX8_claim_1 : decode cX8_claim 1 = .ok (.iload_n 1, 1) := by decide +kernel
theorem dX8_claim_2 : decode cX8_claim 2 = .ok (.invokevirtual 227, 3) := by decide +kernel
theorem dX8_claim_5 : decode cX8_claim 5 = .ok (.astore_n 2, 1) := by decide +kernel
theorem dX8_claim_6 : decode cX8_claim 6 = .ok (.aload_n 2, 1) := by decide +kernel
theorem dX8_claim_7 : decode cX8_claim 7 = .ok (.ifnonnull 14, 3) := by decide +kernel
theorem dX8_claim_10 : decode cX8_claim 10 = .ok (.new 95, 3) := by decide +kernel
theorem dX8_claim_13 : decode cX8_claim 13 = .ok (.dup, 1) := by decide +kernel
theorem dX8_claim_14 : decode cX8_claim 14 = .ok (.ldc_w 271, 3) := by decide +kernel
theorem dX8_claim_17 : decode cX8_claim 17 = .ok (.invokespecial 99, 3) := by decide +kernel
theorem dX8_claim_20 : decode cX8_claim 20 = .ok (.athrow, 1) := by decide +kernel
theorem dX8_claim_21 : decode cX8_claim 21 = .ok (.iconst 0, 1) := by decide +kernel
theorem dX8_claim_22 : decode cX8_claim 22 = .ok (.istore_n 3, 1) := by decide +kernel
theorem dX8_claim_23 : decode cX8_claim 23 = .ok (.iload_n 3, 1) := by decide +kernel
theorem dX8_claim_24 : decode cX8_claim 24 = .ok (.aload_n 2, 1) := by decide +kernel
theorem dX8_claim_25 : decode cX8_claim 25 = .ok (.getfield 273, 3) := by decide +kernel
theorem dX8_claim_28 : decode cX8_claim 28 = .ok (.arraylength, 1) := by decide +kernel
theorem dX8_claim_29 : decode cX8_claim 29 = .ok (.if_icmp .ge 42, 3) := by decide +kernel
theorem dX8_claim_32 : decode cX8_claim 32 = .ok (.aload_n 2, 1) := by decide +kernel
theorem dX8_claim_33 : decode cX8_claim 33 = .ok (.iload_n 3, 1) := by decide +kernel
theorem dX8_claim_34 : decode cX8_claim 34 = .ok (.invokevirtual 289, 3) := by decide +kernel
theorem dX8_claim_37 : decode cX8_claim 37 = .ok (.istore 4, 2) := by decide +kernel
theorem dX8_claim_39 : decode cX8_claim 39 = .ok (.aload_n 2, 1) := by decide +kernel
theorem dX8_claim_40 : decode cX8_claim 40 = .ok (.iload_n 3, 1) := by decide +kernel
theorem dX8_claim_41 : decode cX8_claim 41 = .ok (.invokevirtual 241, 3) := by decide +kernel
theorem dX8_claim_44 : decode cX8_claim 44 = .ok (.istore 5, 2) := by decide +kernel
theorem dX8_claim_46 : decode cX8_claim 46 = .ok (.iload 4, 2) := by decide +kernel
theorem dX8_claim_48 : decode cX8_claim 48 = .ok (.iload 5, 2) := by decide +kernel
theorem dX8_claim_50 : decode cX8_claim 50 = .ok (.if_icmp .eq 15, 3) := by decide +kernel
theorem dX8_claim_53 : decode cX8_claim 53 = .ok (.iload_n 3, 1) := by decide +kernel
theorem dX8_claim_54 : decode cX8_claim 54 = .ok (.iconst 5, 1) := by decide +kernel
theorem dX8_claim_55 : decode cX8_claim 55 = .ok (.imul, 1) := by decide +kernel
theorem dX8_claim_56 : decode cX8_claim 56 = .ok (.iload 4, 2) := by decide +kernel
theorem dX8_claim_58 : decode cX8_claim 58 = .ok (.iload 5, 2) := by decide +kernel
theorem dX8_claim_60 : decode cX8_claim 60 = .ok (.invokestatic 316, 3) := by decide +kernel
theorem dX8_claim_63 : decode cX8_claim 63 = .ok (.iadd, 1) := by decide +kernel
theorem dX8_claim_64 : decode cX8_claim 64 = .ok (.ireturn, 1) := by decide +kernel
theorem dX8_claim_65 : decode cX8_claim 65 = .ok (.iinc 3 1, 3) := by decide +kernel
theorem dX8_claim_68 : decode cX8_claim 68 = .ok (.goto (-45), 3) := by decide +kernel
theorem dX8_claim_71 : decode cX8_claim 71 = .ok (.iconst (-1), 1) := by decide +kernel
theorem dX8_claim_72 : decode cX8_claim 72 = .ok (.ireturn, 1) := by decide +kernel
theorem dX8_account_0 : decode cX8_account 0 = .ok (.aload_n 0, 1) := by decide +kernel
theorem dX8_account_1 : decode cX8_account 1 = .ok (.getfield 35, 3) := by decide +kernel
theorem dX8_account_4 : decode cX8_account 4 = .ok (.iload_n 1, 1) := by decide +kernel
theorem dX8_account_5 : decode cX8_account 5 = .ok (.invokevirtual 138, 3) := by decide +kernel
theorem dX8_account_8 : decode cX8_account 8 = .ok (.astore_n 2, 1) := by decide +kernel
theorem dX8_account_9 : decode cX8_account 9 = .ok (.aload_n 2, 1) := by decide +kernel
theorem dX8_account_10 : decode cX8_account 10 = .ok (.ifnonnull 13, 3) := by decide +kernel
theorem dX8_account_13 : decode cX8_account 13 = .ok (.new 95, 3) := by decide +kernel
theorem dX8_account_16 : decode cX8_account 16 = .ok (.dup, 1) := by decide +kernel
theorem dX8_account_17 : decode cX8_account 17 = .ok (.ldc 142, 2) := by decide +kernel
theorem dX8_account_19 : decode cX8_account 19 = .ok (.invokespecial 99, 3) := by decide +kernel
theorem dX8_account_22 : decode cX8_account 22 = .ok (.athrow, 1) := by decide +kernel
theorem dX8_account_23 : decode cX8_account 23 = .ok (.aload_n 2, 1) := by decide +kernel
theorem dX8_account_24 : decode cX8_account 24 = .ok (.getfield 319, 3) := by decide +kernel
theorem dX8_account_27 : decode cX8_account 27 = .ok (.ireturn, 1) := by decide +kernel
theorem dX8_accountAnew_0 : decode cX8_accountAnew 0 = .ok (.aload_n 0, 1) := by decide +kernel
theorem dX8_accountAnew_1 : decode cX8_accountAnew 1 = .ok (.getfield 35, 3) := by decide +kernel
theorem dX8_accountAnew_4 : decode cX8_accountAnew 4 = .ok (.iload_n 1, 1) := by decide +kernel
theorem dX8_accountAnew_5 : decode cX8_accountAnew 5 = .ok (.invokevirtual 138, 3) := by decide +kernel
theorem dX8_accountAnew_8 : decode cX8_accountAnew 8 = .ok (.ifnonnull 13, 3) := by decide +kernel
theorem dX8_accountAnew_11 : decode cX8_accountAnew 11 = .ok (.new 95, 3) := by decide +kernel
theorem dX8_accountAnew_14 : decode cX8_accountAnew 14 = .ok (.dup, 1) := by decide +kernel
theorem dX8_accountAnew_15 : decode cX8_accountAnew 15 = .ok (.ldc 142, 2) := by decide +kernel
theorem dX8_accountAnew_17 : decode cX8_accountAnew 17 = .ok (.invokespecial 99, 3) := by decide +kernel
theorem dX8_accountAnew_20 : decode cX8_accountAnew 20 = .ok (.athrow, 1) := by decide +kernel
theorem dX8_accountAnew_21 : decode cX8_accountAnew 21 = .ok (.iconst 0, 1) := by decide +kernel
theorem dX8_accountAnew_22 : decode cX8_accountAnew 22 = .ok (.istore_n 2, 1) := by decide +kernel
theorem dX8_accountAnew_23 : decode cX8_accountAnew 23 = .ok (.iconst 0, 1) := by decide +kernel
theorem dX8_accountAnew_24 : decode cX8_accountAnew 24 = .ok (.istore_n 3, 1) := by decide +kernel
theorem dX8_accountAnew_25 : decode cX8_accountAnew 25 = .ok (.iload_n 3, 1) := by decide +kernel
theorem dX8_accountAnew_26 : decode cX8_accountAnew 26 = .ok (.aload_n 0, 1) := by decide +kernel
theorem dX8_accountAnew_27 : decode cX8_accountAnew 27 = .ok (.getfield 62, 3) := by decide +kernel
theorem dX8_accountAnew_30 : decode cX8_accountAnew 30 = .ok (.if_icmp .ge 31, 3) := by decide +kernel
theorem dX8_accountAnew_33 : decode cX8_accountAnew 33 = .ok (.aload_n 0, 1) := by decide +kernel
theorem dX8_accountAnew_34 : decode cX8_accountAnew 34 = .ok (.iload_n 3, 1) := by decide +kernel
theorem dX8_accountAnew_35 : decode cX8_accountAnew 35 = .ok (.invokevirtual 227, 3) := by decide +kernel
theorem dX8_accountAnew_38 : decode cX8_accountAnew 38 = .ok (.astore 4, 2) := by decide +kernel
theorem dX8_accountAnew_40 : decode cX8_accountAnew 40 = .ok (.aload 4, 2) := by decide +kernel
theorem dX8_accountAnew_42 : decode cX8_accountAnew 42 = .ok (.ifnull 13, 3) := by decide +kernel
theorem dX8_accountAnew_45 : decode cX8_accountAnew 45 = .ok (.iload_n 2, 1) := by decide +kernel
theorem dX8_accountAnew_46 : decode cX8_accountAnew 46 = .ok (.aload_n 0, 1) := by decide +kernel
theorem dX8_accountAnew_47 : decode cX8_accountAnew 47 = .ok (.aload 4, 2) := by decide +kernel
theorem dX8_accountAnew_49 : decode cX8_accountAnew 49 = .ok (.iload_n 1, 1) := by decide +kernel
theorem dX8_accountAnew_50 : decode cX8_accountAnew 50 = .ok (.invokevirtual 322, 3) := by decide +kernel
theorem dX8_accountAnew_53 : decode cX8_accountAnew 53 = .ok (.iadd, 1) := by decide +kernel
theorem dX8_accountAnew_54 : decode cX8_accountAnew 54 = .ok (.istore_n 2, 1) := by decide +kernel
theorem dX8_accountAnew_55 : decode cX8_accountAnew 55 = .ok (.iinc 3 1, 3) := by decide +kernel
theorem dX8_accountAnew_58 : decode cX8_accountAnew 58 = .ok (.goto (-33), 3) := by decide +kernel
theorem dX8_accountAnew_61 : decode cX8_accountAnew 61 = .ok (.iload_n 2, 1) := by decide +kernel
theorem dX8_accountAnew_62 : decode cX8_accountAnew 62 = .ok (.ireturn, 1) := by decide +kernel
theorem dX8_messageAt_0 : decode cX8_messageAt 0 = .ok (.iload_n 1, 1) := by decide +kernel
theorem dX8_messageAt_1 : decode cX8_messageAt 1 = .ok (.iconst 0, 1) := by decide +kernel
theorem dX8_messageAt_2 : decode cX8_messageAt 2 = .ok (.aload_n 0, 1) := by decide +kernel
theorem dX8_messageAt_3 : decode cX8_messageAt 3 = .ok (.getfield 62, 3) := by decide +kernel
theorem dX8_messageAt_6 : decode cX8_messageAt 6 = .ok (.iconst 1, 1) := by decide +kernel
theorem dX8_messageAt_7 : decode cX8_messageAt 7 = .ok (.isub, 1) := by decide +kernel
theorem dX8_messageAt_8 : decode cX8_messageAt 8 = .ok (.invokestatic 68, 3) := by decide +kernel
theorem dX8_messageAt_11 : decode cX8_messageAt 11 = .ok (.ifCond .ne 12, 3) := by decide +kernel
theorem dX8_messageAt_14 : decode cX8_messageAt 14 = .ok (.iload_n 1, 1) := by decide +kernel
theorem dX8_messageAt_15 : decode cX8_messageAt 15 = .ok (.aload_n 0, 1) := by decide +kernel
theorem dX8_messageAt_16 : decode cX8_messageAt 16 = .ok (.getfield 54, 3) := by decide +kernel
theorem dX8_messageAt_19 : decode cX8_messageAt 19 = .ok (.arraylength, 1) := by decide +kernel
theorem dX8_messageAt_20 : decode cX8_messageAt 20 = .ok (.if_icmp .lt 7, 3) := by decide +kernel
theorem dX8_messageAt_23 : decode cX8_messageAt 23 = .ok (.aconst_null, 1) := by decide +kernel
theorem dX8_messageAt_24 : decode cX8_messageAt 24 = .ok (.goto 9, 3) := by decide +kernel
theorem dX8_messageAt_27 : decode cX8_messageAt 27 = .ok (.aload_n 0, 1) := by decide +kernel
theorem dX8_messageAt_28 : decode cX8_messageAt 28 = .ok (.getfield 54, 3) := by decide +kernel
theorem dX8_messageAt_31 : decode cX8_messageAt 31 = .ok (.iload_n 1, 1) := by decide +kernel
theorem dX8_messageAt_32 : decode cX8_messageAt 32 = .ok (.aaload, 1) := by decide +kernel
theorem dX8_messageAt_33 : decode cX8_messageAt 33 = .ok (.areturn, 1) := by decide +kernel
theorem dX8_countAtCable_0 : decode cX8_countAtCable 0 = .ok (.iconst 0, 1) := by decide +kernel
theorem dX8_countAtCable_1 : decode cX8_countAtCable 1 = .ok (.istore_n 2, 1) := by decide +kernel
theorem dX8_countAtCable_2 : decode cX8_countAtCable 2 = .ok (.iconst 0, 1) := by decide +kernel
theorem dX8_countAtCable_3 : decode cX8_countAtCable 3 = .ok (.istore_n 3, 1) := by decide +kernel
theorem dX8_countAtCable_4 : decode cX8_countAtCable 4 = .ok (.iload_n 3, 1) := by decide +kernel
theorem dX8_countAtCable_5 : decode cX8_countAtCable 5 = .ok (.aload_n 0, 1) := by decide +kernel
theorem dX8_countAtCable_6 : decode cX8_countAtCable 6 = .ok (.getfield 62, 3) := by decide +kernel
theorem dX8_countAtCable_9 : decode cX8_countAtCable 9 = .ok (.if_icmp .ge 33, 3) := by decide +kernel
theorem dX8_countAtCable_12 : decode cX8_countAtCable 12 = .ok (.aload_n 0, 1) := by decide +kernel
theorem dX8_countAtCable_13 : decode cX8_countAtCable 13 = .ok (.iload_n 3, 1) := by decide +kernel
theorem dX8_countAtCable_14 : decode cX8_countAtCable 14 = .ok (.invokevirtual 227, 3) := by decide +kernel
theorem dX8_countAtCable_17 : decode cX8_countAtCable 17 = .ok (.astore 4, 2) := by decide +kernel
theorem dX8_countAtCable_19 : decode cX8_countAtCable 19 = .ok (.aload 4, 2) := by decide +kernel
theorem dX8_countAtCable_21 : decode cX8_countAtCable 21 = .ok (.ifnull 15, 3) := by decide +kernel
theorem dX8_countAtCable_24 : decode cX8_countAtCable 24 = .ok (.aload 4, 2) := by decide +kernel
theorem dX8_countAtCable_26 : decode cX8_countAtCable 26 = .ok (.invokevirtual 281, 3) := by decide +kernel
theorem dX8_countAtCable_29 : decode cX8_countAtCable 29 = .ok (.iload_n 1, 1) := by decide +kernel
theorem dX8_countAtCable_30 : decode cX8_countAtCable 30 = .ok (.if_icmp .ne 6, 3) := by decide +kernel
theorem dX8_countAtCable_33 : decode cX8_countAtCable 33 = .ok (.iinc 2 1, 3) := by decide +kernel
theorem dX8_countAtCable_36 : decode cX8_countAtCable 36 = .ok (.iinc 3 1, 3) := by decide +kernel
theorem dX8_countAtCable_39 : decode cX8_countAtCable 39 = .ok (.goto (-35), 3) := by decide +kernel
theorem dX8_countAtCable_42 : decode cX8_countAtCable 42 = .ok (.iload_n 2, 1) := by decide +kernel
theorem dX8_countAtCable_43 : decode cX8_countAtCable 43 = .ok (.ireturn, 1) := by decide +kernel
theorem dX8_rulesAt_0 : decode cX8_rulesAt 0 = .ok (.aload_n 0, 1) := by decide +kernel
theorem dX8_rulesAt_1 : decode cX8_rulesAt 1 = .ok (.getfield 65, 3) := by decide +kernel
theorem dX8_rulesAt_4 : decode cX8_rulesAt 4 = .ok (.sipush 1440, 3) := by decide +kernel
theorem dX8_rulesAt_7 : decode cX8_rulesAt 7 = .ok (.idiv, 1) := by decide +kernel
theorem dX8_rulesAt_8 : decode cX8_rulesAt 8 = .ok (.istore_n 2, 1) := by decide +kernel
theorem dX8_rulesAt_9 : decode cX8_rulesAt 9 = .ok (.aload_n 0, 1) := by decide +kernel
theorem dX8_rulesAt_10 : decode cX8_rulesAt 10 = .ok (.getfield 58, 3) := by decide +kernel
theorem dX8_rulesAt_13 : decode cX8_rulesAt 13 = .ok (.aload_n 0, 1) := by decide +kernel
theorem dX8_rulesAt_14 : decode cX8_rulesAt 14 = .ok (.getfield 48, 3) := by decide +kernel
theorem dX8_rulesAt_17 : decode cX8_rulesAt 17 = .ok (.arraylength, 1) := by decide +kernel
theorem dX8_rulesAt_18 : decode cX8_rulesAt 18 = .ok (.invokestatic 326, 3) := by decide +kernel
theorem dX8_rulesAt_21 : decode cX8_rulesAt 21 = .ok (.iconst 1, 1) := by decide +kernel
theorem dX8_rulesAt_22 : decode cX8_rulesAt 22 = .ok (.isub, 1) := by decide +kernel
theorem dX8_rulesAt_23 : decode cX8_rulesAt 23 = .ok (.istore_n 3, 1) := by decide +kernel
theorem dX8_rulesAt_24 : decode cX8_rulesAt 24 = .ok (.iload_n 3, 1) := by decide +kernel
theorem dX8_rulesAt_25 : decode cX8_rulesAt 25 = .ok (.ifCond .lt 46, 3) := by decide +kernel
theorem dX8_rulesAt_28 : decode cX8_rulesAt 28 = .ok (.aload_n 0, 1) := by decide +kernel
theorem dX8_rulesAt_29 : decode cX8_rulesAt 29 = .ok (.getfield 48, 3) := by decide +kernel
theorem dX8_rulesAt_32 : decode cX8_rulesAt 32 = .ok (.iload_n 3, 1) := by decide +kernel
theorem dX8_rulesAt_33 : decode cX8_rulesAt 33 = .ok (.aaload, 1) := by decide +kernel
theorem dX8_rulesAt_34 : decode cX8_rulesAt 34 = .ok (.astore 4, 2) := by decide +kernel
theorem dX8_rulesAt_36 : decode cX8_rulesAt 36 = .ok (.aload 4, 2) := by decide +kernel
theorem dX8_rulesAt_38 : decode cX8_rulesAt 38 = .ok (.ifnull 27, 3) := by decide +kernel
theorem dX8_rulesAt_41 : decode cX8_rulesAt 41 = .ok (.aload 4, 2) := by decide +kernel
theorem dX8_rulesAt_43 : decode cX8_rulesAt 43 = .ok (.getfield 331, 3) := by decide +kernel
theorem dX8_rulesAt_46 : decode cX8_rulesAt 46 = .ok (.iload_n 2, 1) := by decide +kernel
theorem dX8_rulesAt_47 : decode cX8_rulesAt 47 = .ok (.if_icmp .gt 18, 3) := by decide +kernel
theorem dX8_rulesAt_50 : decode cX8_rulesAt 50 = .ok (.aload_n 1, 1) := by decide +kernel
theorem dX8_rulesAt_51 : decode cX8_rulesAt 51 = .ok (.aload 4, 2) := by decide +kernel
theorem dX8_rulesAt_53 : decode cX8_rulesAt 53 = .ok (.getfield 190, 3) := by decide +kernel
theorem dX8_rulesAt_56 : decode cX8_rulesAt 56 = .ok (.invokevirtual 334, 3) := by decide +kernel
theorem dX8_rulesAt_59 : decode cX8_rulesAt 59 = .ok (.ifCond .ne 6, 3) := by decide +kernel
theorem dX8_rulesAt_62 : decode cX8_rulesAt 62 = .ok (.aload 4, 2) := by decide +kernel
theorem dX8_rulesAt_64 : decode cX8_rulesAt 64 = .ok (.areturn, 1) := by decide +kernel
theorem dX8_rulesAt_65 : decode cX8_rulesAt 65 = .ok (.iinc 3 (-1), 3) := by decide +kernel
theorem dX8_rulesAt_68 : decode cX8_rulesAt 68 = .ok (.goto (-44), 3) := by decide +kernel
theorem dX8_rulesAt_71 : decode cX8_rulesAt 71 = .ok (.aload_n 0, 1) := by decide +kernel
theorem dX8_rulesAt_72 : decode cX8_rulesAt 72 = .ok (.getfield 44, 3) := by decide +kernel
theorem dX8_rulesAt_75 : decode cX8_rulesAt 75 = .ok (.areturn, 1) := by decide +kernel
theorem dX8_settle_0 : decode cX8_settle 0 = .ok (.aload_n 0, 1) := by decide +kernel
theorem dX8_settle_1 : decode cX8_settle 1 = .ok (.getfield 35, 3) := by decide +kernel
theorem dX8_settle_4 : decode cX8_settle 4 = .ok (.aload_n 1, 1) := by decide +kernel
theorem dX8_settle_5 : decode cX8_settle 5 = .ok (.getfield 337, 3) := by decide +kernel
theorem dX8_settle_8 : decode cX8_settle 8 = .ok (.invokevirtual 138, 3) := by decide +kernel
theorem dX8_settle_11 : decode cX8_settle 11 = .ok (.astore_n 2, 1) := by decide +kernel
theorem dX8_settle_12 : decode cX8_settle 12 = .ok (.aload_n 2, 1) := by decide +kernel
theorem dX8_settle_13 : decode cX8_settle 13 = .ok (.ifnull 16, 3) := by decide +kernel
theorem dX8_settle_16 : decode cX8_settle 16 = .ok (.aload_n 2, 1) := by decide +kernel
theorem dX8_settle_17 : decode cX8_settle 17 = .ok (.dup, 1) := by decide +kernel
theorem dX8_settle_18 : decode cX8_settle 18 = .ok (.getfield 319, 3) := by decide +kernel
theorem dX8_settle_21 : decode cX8_settle 21 = .ok (.aload_n 1, 1) := by decide +kernel
theorem dX8_settle_22 : decode cX8_settle 22 = .ok (.getfield 278, 3) := by decide +kernel
theorem dX8_settle_25 : decode cX8_settle 25 = .ok (.isub, 1) := by decide +kernel
theorem dX8_settle_26 : decode cX8_settle 26 = .ok (.putfield 319, 3) := by decide +kernel
theorem dX8_settle_29 : decode cX8_settle 29 = .ok (.iconst 0, 1) := by decide +kernel
theorem dX8_settle_30 : decode cX8_settle 30 = .ok (.istore_n 3, 1) := by decide +kernel
theorem dX8_settle_31 : decode cX8_settle 31 = .ok (.iload_n 3, 1) := by decide +kernel
theorem dX8_settle_32 : decode cX8_settle 32 = .ok (.aload_n 1, 1) := by decide +kernel
theorem dX8_settle_33 : decode cX8_settle 33 = .ok (.getfield 340, 3) := by decide +kernel
theorem dX8_settle_36 : decode cX8_settle 36 = .ok (.arraylength, 1) := by decide +kernel
theorem dX8_settle_37 : decode cX8_settle 37 = .ok (.if_icmp .ge 71, 3) := by decide +kernel
theorem dX8_settle_40 : decode cX8_settle 40 = .ok (.aload_n 0, 1) := by decide +kernel
theorem dX8_settle_41 : decode cX8_settle 41 = .ok (.getfield 35, 3) := by decide +kernel
theorem dX8_settle_44 : decode cX8_settle 44 = .ok (.aload_n 1, 1) := by decide +kernel
theorem dX8_settle_45 : decode cX8_settle 45 = .ok (.getfield 340, 3) := by decide +kernel
theorem dX8_settle_48 : decode cX8_settle 48 = .ok (.iload_n 3, 1) := by decide +kernel
theorem dX8_settle_49 : decode cX8_settle 49 = .ok (.iaload, 1) := by decide +kernel
theorem dX8_settle_50 : decode cX8_settle 50 = .ok (.invokevirtual 152, 3) := by decide +kernel
theorem dX8_settle_53 : decode cX8_settle 53 = .ok (.astore 4, 2) := by decide +kernel
theorem dX8_settle_55 : decode cX8_settle 55 = .ok (.aload 4, 2) := by decide +kernel
theorem dX8_settle_57 : decode cX8_settle 57 = .ok (.ifnonnull 7, 3) := by decide +kernel
theorem dX8_settle_60 : decode cX8_settle 60 = .ok (.aconst_null, 1) := by decide +kernel
theorem dX8_settle_61 : decode cX8_settle 61 = .ok (.goto 15, 3) := by decide +kernel
theorem dX8_settle_64 : decode cX8_settle 64 = .ok (.aload_n 0, 1) := by decide +kernel
theorem dX8_settle_65 : decode cX8_settle 65 = .ok (.getfield 35, 3) := by decide +kernel
theorem dX8_settle_68 : decode cX8_settle 68 = .ok (.aload 4, 2) := by decide +kernel
theorem dX8_settle_70 : decode cX8_settle 70 = .ok (.getfield 343, 3) := by decide +kernel
theorem dX8_settle_73 : decode cX8_settle 73 = .ok (.invokevirtual 138, 3) := by decide +kernel
theorem dX8_settle_76 : decode cX8_settle 76 = .ok (.astore 5, 2) := by decide +kernel
theorem dX8_settle_78 : decode cX8_settle 78 = .ok (.aload 5, 2) := by decide +kernel
theorem dX8_settle_80 : decode cX8_settle 80 = .ok (.ifnull 22, 3) := by decide +kernel
theorem dX8_settle_83 : decode cX8_settle 83 = .ok (.aload 5, 2) := by decide +kernel
theorem dX8_settle_85 : decode cX8_settle 85 = .ok (.dup, 1) := by decide +kernel
theorem dX8_settle_86 : decode cX8_settle 86 = .ok (.getfield 319, 3) := by decide +kernel
theorem dX8_settle_89 : decode cX8_settle 89 = .ok (.aload_n 1, 1) := by decide +kernel
theorem dX8_settle_90 : decode cX8_settle 90 = .ok (.aload 4, 2) := by decide +kernel
theorem dX8_settle_92 : decode cX8_settle 92 = .ok (.getfield 346, 3) := by decide +kernel
theorem dX8_settle_95 : decode cX8_settle 95 = .ok (.invokevirtual 349, 3) := by decide +kernel
theorem dX8_settle_98 : decode cX8_settle 98 = .ok (.iadd, 1) := by decide +kernel
theorem dX8_settle_99 : decode cX8_settle 99 = .ok (.putfield 319, 3) := by decide +kernel
theorem dX8_settle_102 : decode cX8_settle 102 = .ok (.iinc 3 1, 3) := by decide +kernel
theorem dX8_settle_105 : decode cX8_settle 105 = .ok (.goto (-74), 3) := by decide +kernel
theorem dX8_settle_108 : decode cX8_settle 108 = .ok (.return_, 1) := by decide +kernel
theorem dX8_shareIn_0 : decode cX8_shareIn 0 = .ok (.iconst 0, 1) := by decide +kernel
theorem dX8_shareIn_1 : decode cX8_shareIn 1 = .ok (.istore_n 3, 1) := by decide +kernel
theorem dX8_shareIn_2 : decode cX8_shareIn 2 = .ok (.iconst 0, 1) := by decide +kernel
theorem dX8_shareIn_3 : decode cX8_shareIn 3 = .ok (.istore 4, 2) := by decide +kernel
theorem dX8_shareIn_5 : decode cX8_shareIn 5 = .ok (.iload 4, 2) := by decide +kernel
theorem dX8_shareIn_7 : decode cX8_shareIn 7 = .ok (.aload_n 1, 1) := by decide +kernel
theorem dX8_shareIn_8 : decode cX8_shareIn 8 = .ok (.getfield 340, 3) := by decide +kernel
theorem dX8_shareIn_11 : decode cX8_shareIn 11 = .ok (.arraylength, 1) := by decide +kernel
theorem dX8_shareIn_12 : decode cX8_shareIn 12 = .ok (.if_icmp .ge 77, 3) := by decide +kernel
theorem dX8_shareIn_15 : decode cX8_shareIn 15 = .ok (.aload_n 0, 1) := by decide +kernel
theorem dX8_shareIn_16 : decode cX8_shareIn 16 = .ok (.getfield 35, 3) := by decide +kernel
theorem dX8_shareIn_19 : decode cX8_shareIn 19 = .ok (.aload_n 1, 1) := by decide +kernel
theorem dX8_shareIn_20 : decode cX8_shareIn 20 = .ok (.getfield 340, 3) := by decide +kernel
theorem dX8_shareIn_23 : decode cX8_shareIn 23 = .ok (.iload 4, 2) := by decide +kernel
theorem dX8_shareIn_25 : decode cX8_shareIn 25 = .ok (.iaload, 1) := by decide +kernel
theorem dX8_shareIn_26 : decode cX8_shareIn 26 = .ok (.invokevirtual 152, 3) := by decide +kernel
theorem dX8_shareIn_29 : decode cX8_shareIn 29 = .ok (.astore 5, 2) := by decide +kernel
theorem dX8_shareIn_31 : decode cX8_shareIn 31 = .ok (.aload 5, 2) := by decide +kernel
theorem dX8_shareIn_33 : decode cX8_shareIn 33 = .ok (.ifnonnull 7, 3) := by decide +kernel
theorem dX8_shareIn_36 : decode cX8_shareIn 36 = .ok (.iconst 0, 1) := by decide +kernel
theorem dX8_shareIn_37 : decode cX8_shareIn 37 = .ok (.goto 12, 3) := by decide +kernel
theorem dX8_shareIn_40 : decode cX8_shareIn 40 = .ok (.aload_n 1, 1) := by decide +kernel
theorem dX8_shareIn_41 : decode cX8_shareIn 41 = .ok (.aload 5, 2) := by decide +kernel
theorem dX8_shareIn_43 : decode cX8_shareIn 43 = .ok (.getfield 346, 3) := by decide +kernel
theorem dX8_shareIn_46 : decode cX8_shareIn 46 = .ok (.invokevirtual 349, 3) := by decide +kernel
theorem dX8_shareIn_49 : decode cX8_shareIn 49 = .ok (.istore 6, 2) := by decide +kernel
theorem dX8_shareIn_51 : decode cX8_shareIn 51 = .ok (.aload_n 1, 1) := by decide +kernel
theorem dX8_shareIn_52 : decode cX8_shareIn 52 = .ok (.getfield 337, 3) := by decide +kernel
theorem dX8_shareIn_55 : decode cX8_shareIn 55 = .ok (.iload_n 2, 1) := by decide +kernel
theorem dX8_shareIn_56 : decode cX8_shareIn 56 = .ok (.if_icmp .ne 8, 3) := by decide +kernel
theorem dX8_shareIn_59 : decode cX8_shareIn 59 = .ok (.iload_n 3, 1) := by decide +kernel
theorem dX8_shareIn_60 : decode cX8_shareIn 60 = .ok (.iload 6, 2) := by decide +kernel
theorem dX8_shareIn_62 : decode cX8_shareIn 62 = .ok (.isub, 1) := by decide +kernel
theorem dX8_shareIn_63 : decode cX8_shareIn 63 = .ok (.istore_n 3, 1) := by decide +kernel
theorem dX8_shareIn_64 : decode cX8_shareIn 64 = .ok (.aload 5, 2) := by decide +kernel
theorem dX8_shareIn_66 : decode cX8_shareIn 66 = .ok (.ifnull 17, 3) := by decide +kernel
theorem dX8_shareIn_69 : decode cX8_shareIn 69 = .ok (.aload 5, 2) := by decide +kernel
theorem dX8_shareIn_71 : decode cX8_shareIn 71 = .ok (.getfield 343, 3) := by decide +kernel
theorem dX8_shareIn_74 : decode cX8_shareIn 74 = .ok (.iload_n 2, 1) := by decide +kernel
theorem dX8_shareIn_75 : decode cX8_shareIn 75 = .ok (.if_icmp .ne 8, 3) := by decide +kernel
theorem dX8_shareIn_78 : decode cX8_shareIn 78 = .ok (.iload_n 3, 1) := by decide +kernel
theorem dX8_shareIn_79 : decode cX8_shareIn 79 = .ok (.iload 6, 2) := by decide +kernel
theorem dX8_shareIn_81 : decode cX8_shareIn 81 = .ok (.iadd, 1) := by decide +kernel
theorem dX8_shareIn_82 : decode cX8_shareIn 82 = .ok (.istore_n 3, 1) := by decide +kernel
theorem dX8_shareIn_83 : decode cX8_shareIn 83 = .ok (.iinc 4 1, 3) := by decide +kernel
theorem dX8_shareIn_86 : decode cX8_shareIn 86 = .ok (.goto (-81), 3) := by decide +kernel
theorem dX8_shareIn_89 : decode cX8_shareIn 89 = .ok (.iload_n 3, 1) := by decide +kernel
theorem dX8_shareIn_90 : decode cX8_shareIn 90 = .ok (.ireturn, 1) := by decide +kernel
theorem dX8_isAnyUnderway_0 : decode cX8_isAnyUnderway 0 = .ok (.iconst 0, 1) := by decide +kernel
theorem dX8_isAnyUnderway_1 : decode cX8_isAnyUnderway 1 = .ok (.istore_n 1, 1) := by decide +kernel
theorem dX8_isAnyUnderway_2 : decode cX8_isAnyUnderway 2 = .ok (.iload_n 1, 1) := by decide +kernel
theorem dX8_isAnyUnderway_3 : decode cX8_isAnyUnderway 3 = .ok (.aload_n 0, 1) := by decide +kernel
theorem dX8_isAnyUnderway_4 : decode cX8_isAnyUnderway 4 = .ok (.getfield 62, 3) := by decide +kernel
theorem dX8_isAnyUnderway_7 : decode cX8_isAnyUnderway 7 = .ok (.if_icmp .ge 28, 3) := by decide +kernel
theorem dX8_isAnyUnderway_10 : decode cX8_isAnyUnderway 10 = .ok (.aload_n 0, 1) := by decide +kernel
theorem dX8_isAnyUnderway_11 : decode cX8_isAnyUnderway 11 = .ok (.iload_n 1, 1) := by decide +kernel
theorem dX8_isAnyUnderway_12 : decode cX8_isAnyUnderway 12 = .ok (.invokevirtual 227, 3) := by decide +kernel
theorem dX8_isAnyUnderway_15 : decode cX8_isAnyUnderway 15 = .ok (.astore_n 2, 1) := by decide +kernel
theorem dX8_isAnyUnderway_16 : decode cX8_isAnyUnderway 16 = .ok (.aload_n 2, 1) := by decide +kernel
theorem dX8_isAnyUnderway_17 : decode cX8_isAnyUnderway 17 = .ok (.ifnull 12, 3) := by decide +kernel
theorem dX8_isAnyUnderway_20 : decode cX8_isAnyUnderway 20 = .ok (.aload_n 2, 1) := by decide +kernel
theorem dX8_isAnyUnderway_21 : decode cX8_isAnyUnderway 21 = .ok (.getfield 238, 3) := by decide +kernel
theorem dX8_isAnyUnderway_24 : decode cX8_isAnyUnderway 24 = .ok (.ifCond .ne 5, 3) := by decide +kernel
theorem dX8_isAnyUnderway_27 : decode cX8_isAnyUnderway 27 = .ok (.iconst 1, 1) := by decide +kernel
theorem dX8_isAnyUnderway_28 : decode cX8_isAnyUnderway 28 = .ok (.ireturn, 1) := by decide +kernel
theorem dX8_isAnyUnderway_29 : decode cX8_isAnyUnderway 29 = .ok (.iinc 1 1, 3) := by decide +kernel
theorem dX8_isAnyUnderway_32 : decode cX8_isAnyUnderway 32 = .ok (.goto (-30), 3) := by decide +kernel
theorem dX8_isAnyUnderway_35 : decode cX8_isAnyUnderway 35 = .ok (.iconst 0, 1) := by decide +kernel
theorem dX8_isAnyUnderway_36 : decode cX8_isAnyUnderway 36 = .ok (.ireturn, 1) := by decide +kernel
theorem dX8_carryMinute_0 : decode cX8_carryMinute 0 = .ok (.aload_n 0, 1) := by decide +kernel
theorem dX8_carryMinute_1 : decode cX8_carryMinute 1 = .ok (.getfield 35, 3) := by decide +kernel
theorem dX8_carryMinute_4 : decode cX8_carryMinute 4 = .ok (.invokevirtual 352, 3) := by decide +kernel
theorem dX8_carryMinute_7 : decode cX8_carryMinute 7 = .ok (.iconst 2, 1) := by decide +kernel
theorem dX8_carryMinute_8 : decode cX8_carryMinute 8 = .ok (.istore_n 1, 1) := by decide +kernel
theorem dX8_carryMinute_9 : decode cX8_carryMinute 9 = .ok (.iload_n 1, 1) := by decide +kernel
theorem dX8_carryMinute_10 : decode cX8_carryMinute 10 = .ok (.ifCond .lt 58, 3) := by decide +kernel
theorem dX8_carryMinute_13 : decode cX8_carryMinute 13 = .ok (.iconst 0, 1) := by decide +kernel
theorem dX8_carryMinute_14 : decode cX8_carryMinute 14 = .ok (.istore_n 2, 1) := by decide +kernel
theorem dX8_carryMinute_15 : decode cX8_carryMinute 15 = .ok (.iload_n 2, 1) := by decide +kernel
theorem dX8_carryMinute_16 : decode cX8_carryMinute 16 = .ok (.aload_n 0, 1) := by decide +kernel
theorem dX8_carryMinute_17 : decode cX8_carryMinute 17 = .ok (.getfield 62, 3) := by decide +kernel
theorem dX8_carryMinute_20 : decode cX8_carryMinute 20 = .ok (.if_icmp .ge 42, 3) := by decide +kernel
theorem dX8_carryMinute_23 : decode cX8_carryMinute 23 = .ok (.aload_n 0, 1) := by decide +kernel
theorem dX8_carryMinute_24 : decode cX8_carryMinute 24 = .ok (.iload_n 2, 1) := by decide +kernel
theorem dX8_carryMinute_25 : decode cX8_carryMinute 25 = .ok (.invokevirtual 227, 3) := by decide +kernel
theorem dX8_carryMinute_28 : decode cX8_carryMinute 28 = .ok (.astore_n 3, 1) := by decide +kernel
theorem dX8_carryMinute_29 : decode cX8_carryMinute 29 = .ok (.aload_n 3, 1) := by decide +kernel
theorem dX8_carryMinute_30 : decode cX8_carryMinute 30 = .ok (.ifnull 26, 3) := by decide +kernel
theorem dX8_carryMinute_33 : decode cX8_carryMinute 33 = .ok (.aload_n 3, 1) := by decide +kernel
theorem dX8_carryMinute_34 : decode cX8_carryMinute 34 = .ok (.getfield 355, 3) := by decide +kernel
theorem dX8_carryMinute_37 : decode cX8_carryMinute 37 = .ok (.iload_n 1, 1) := by decide +kernel
theorem dX8_carryMinute_38 : decode cX8_carryMinute 38 = .ok (.if_icmp .ne 18, 3) := by decide +kernel
theorem dX8_carryMinute_41 : decode cX8_carryMinute 41 = .ok (.aload_n 3, 1) := by decide +kernel
theorem dX8_carryMinute_42 : decode cX8_carryMinute 42 = .ok (.aload_n 0, 1) := by decide +kernel
theorem dX8_carryMinute_43 : decode cX8_carryMinute 43 = .ok (.getfield 35, 3) := by decide +kernel
theorem dX8_carryMinute_46 : decode cX8_carryMinute 46 = .ok (.aload_n 3, 1) := by decide +kernel
theorem dX8_carryMinute_47 : decode cX8_carryMinute 47 = .ok (.invokevirtual 281, 3) := by decide +kernel
theorem dX8_carryMinute_50 : decode cX8_carryMinute 50 = .ok (.invokevirtual 152, 3) := by decide +kernel
theorem dX8_carryMinute_53 : decode cX8_carryMinute 53 = .ok (.invokestatic 358, 3) := by decide +kernel
theorem dX8_carryMinute_56 : decode cX8_carryMinute 56 = .ok (.iinc 2 1, 3) := by decide +kernel
theorem dX8_carryMinute_59 : decode cX8_carryMinute 59 = .ok (.goto (-44), 3) := by decide +kernel
theorem dX8_carryMinute_62 : decode cX8_carryMinute 62 = .ok (.iinc 1 (-1), 3) := by decide +kernel
theorem dX8_carryMinute_65 : decode cX8_carryMinute 65 = .ok (.goto (-56), 3) := by decide +kernel
theorem dX8_carryMinute_68 : decode cX8_carryMinute 68 = .ok (.iconst 0, 1) := by decide +kernel
theorem dX8_carryMinute_69 : decode cX8_carryMinute 69 = .ok (.istore_n 1, 1) := by decide +kernel
theorem dX8_carryMinute_70 : decode cX8_carryMinute 70 = .ok (.iload_n 1, 1) := by decide +kernel
theorem dX8_carryMinute_71 : decode cX8_carryMinute 71 = .ok (.aload_n 0, 1) := by decide +kernel
theorem dX8_carryMinute_72 : decode cX8_carryMinute 72 = .ok (.getfield 62, 3) := by decide +kernel
theorem dX8_carryMinute_75 : decode cX8_carryMinute 75 = .ok (.if_icmp .ge 35, 3) := by decide +kernel
theorem dX8_carryMinute_78 : decode cX8_carryMinute 78 = .ok (.aload_n 0, 1) := by decide +kernel
theorem dX8_carryMinute_79 : decode cX8_carryMinute 79 = .ok (.iload_n 1, 1) := by decide +kernel
theorem dX8_carryMinute_80 : decode cX8_carryMinute 80 = .ok (.invokevirtual 227, 3) := by decide +kernel
theorem dX8_carryMinute_83 : decode cX8_carryMinute 83 = .ok (.astore_n 2, 1) := by decide +kernel
theorem dX8_carryMinute_84 : decode cX8_carryMinute 84 = .ok (.aload_n 2, 1) := by decide +kernel
theorem dX8_carryMinute_85 : decode cX8_carryMinute 85 = .ok (.ifnull 19, 3) := by decide +kernel
theorem dX8_carryMinute_88 : decode cX8_carryMinute 88 = .ok (.aload_n 0, 1) := by decide +kernel
theorem dX8_carryMinute_89 : decode cX8_carryMinute 89 = .ok (.aload_n 2, 1) := by decide +kernel
theorem dX8_carryMinute_90 : decode cX8_carryMinute 90 = .ok (.aload_n 0, 1) := by decide +kernel
theorem dX8_carryMinute_91 : decode cX8_carryMinute 91 = .ok (.getfield 35, 3) := by decide +kernel
theorem dX8_carryMinute_94 : decode cX8_carryMinute 94 = .ok (.aload_n 2, 1) := by decide +kernel
theorem dX8_carryMinute_95 : decode cX8_carryMinute 95 = .ok (.invokevirtual 281, 3) := by decide +kernel
theorem dX8_carryMinute_98 : decode cX8_carryMinute 98 = .ok (.invokevirtual 152, 3) := by decide +kernel
theorem dX8_carryMinute_101 : decode cX8_carryMinute 101 = .ok (.invokevirtual 362, 3) := by decide +kernel
theorem dX8_carryMinute_104 : decode cX8_carryMinute 104 = .ok (.iinc 1 1, 3) := by decide +kernel
theorem dX8_carryMinute_107 : decode cX8_carryMinute 107 = .ok (.goto (-37), 3) := by decide +kernel
theorem dX8_carryMinute_110 : decode cX8_carryMinute 110 = .ok (.return_, 1) := by decide +kernel
theorem dX8_carry_0 : decode cX8_carry 0 = .ok (.aload_n 1, 1) := by decide +kernel
theorem dX8_carry_1 : decode cX8_carry 1 = .ok (.ifnonnull 4, 3) := by decide +kernel
theorem dX8_carry_4 : decode cX8_carry 4 = .ok (.return_, 1) := by decide +kernel
theorem dX8_carry_5 : decode cX8_carry 5 = .ok (.aload_n 0, 1) := by decide +kernel
theorem dX8_carry_6 : decode cX8_carry 6 = .ok (.getfield 365, 3) := by decide +kernel
theorem dX8_carry_9 : decode cX8_carry 9 = .ok (.aload_n 1, 1) := by decide +kernel
theorem dX8_carry_10 : decode cX8_carry 10 = .ok (.getfield 368, 3) := by decide +kernel
theorem dX8_carry_13 : decode cX8_carry 13 = .ok (.invokestatic 326, 3) := by decide +kernel
theorem dX8_carry_16 : decode cX8_carry 16 = .ok (.istore_n 2, 1) := by decide +kernel
theorem dX8_carry_17 : decode cX8_carry 17 = .ok (.aload_n 0, 1) := by decide +kernel
theorem dX8_carry_18 : decode cX8_carry 18 = .ok (.dup, 1) := by decide +kernel
theorem dX8_carry_19 : decode cX8_carry 19 = .ok (.getfield 365, 3) := by decide +kernel
theorem dX8_carry_22 : decode cX8_carry 22 = .ok (.iload_n 2, 1) := by decide +kernel
theorem dX8_carry_23 : decode cX8_carry 23 = .ok (.isub, 1) := by decide +kernel
theorem dX8_carry_24 : decode cX8_carry 24 = .ok (.putfield 365, 3) := by decide +kernel
theorem dX8_carry_27 : decode cX8_carry 27 = .ok (.aload_n 1, 1) := by decide +kernel
theorem dX8_carry_28 : decode cX8_carry 28 = .ok (.dup, 1) := by decide +kernel
theorem dX8_carry_29 : decode cX8_carry 29 = .ok (.getfield 368, 3) := by decide +kernel
theorem dX8_carry_32 : decode cX8_carry 32 = .ok (.iload_n 2, 1) := by decide +kernel
theorem dX8_carry_33 : decode cX8_carry 33 = .ok (.isub, 1) := by decide +kernel
theorem dX8_carry_34 : decode cX8_carry 34 = .ok (.putfield 368, 3) := by decide +kernel
theorem dX8_carry_37 : decode cX8_carry 37 = .ok (.return_, 1) := by decide +kernel
theorem dX8_moveOn_0 : decode cX8_moveOn 0 = .ok (.aload_n 2, 1) := by decide +kernel
theorem dX8_moveOn_1 : decode cX8_moveOn 1 = .ok (.ifnull 10, 3) := by decide +kernel
theorem dX8_moveOn_4 : decode cX8_moveOn 4 = .ok (.aload_n 1, 1) := by decide +kernel
theorem dX8_moveOn_5 : decode cX8_moveOn 5 = .ok (.getfield 365, 3) := by decide +kernel
theorem dX8_moveOn_8 : decode cX8_moveOn 8 = .ok (.ifCond .le 4, 3) := by decide +kernel
theorem dX8_moveOn_11 : decode cX8_moveOn 11 = .ok (.return_, 1) := by decide +kernel
theorem dX8_moveOn_12 : decode cX8_moveOn 12 = .ok (.aload_n 1, 1) := by decide +kernel
theorem dX8_moveOn_13 : decode cX8_moveOn 13 = .ok (.dup, 1) := by decide +kernel
theorem dX8_moveOn_14 : decode cX8_moveOn 14 = .ok (.getfield 371, 3) := by decide +kernel
theorem dX8_moveOn_17 : decode cX8_moveOn 17 = .ok (.iconst 1, 1) := by decide +kernel
theorem dX8_moveOn_18 : decode cX8_moveOn 18 = .ok (.iadd, 1) := by decide +kernel
theorem dX8_moveOn_19 : decode cX8_moveOn 19 = .ok (.putfield 371, 3) := by decide +kernel
theorem dX8_moveOn_22 : decode cX8_moveOn 22 = .ok (.aload_n 0, 1) := by decide +kernel
theorem dX8_moveOn_23 : decode cX8_moveOn 23 = .ok (.aload_n 1, 1) := by decide +kernel
theorem dX8_moveOn_24 : decode cX8_moveOn 24 = .ok (.aload_n 2, 1) := by decide +kernel
theorem dX8_moveOn_25 : decode cX8_moveOn 25 = .ok (.aload_n 1, 1) := by decide +kernel
theorem dX8_moveOn_26 : decode cX8_moveOn 26 = .ok (.getfield 284, 3) := by decide +kernel
theorem dX8_moveOn_29 : decode cX8_moveOn 29 = .ok (.invokevirtual 374, 3) := by decide +kernel
theorem dX8_moveOn_32 : decode cX8_moveOn 32 = .ok (.invokevirtual 223, 3) := by decide +kernel
theorem dX8_moveOn_35 : decode cX8_moveOn 35 = .ok (.return_, 1) := by decide +kernel
theorem dX8_comeTo_0 : decode cX8_comeTo 0 = .ok (.aload_n 0, 1) := by decide +kernel
theorem dX8_comeTo_1 : decode cX8_comeTo 1 = .ok (.getfield 35, 3) := by decide +kernel
theorem dX8_comeTo_4 : decode cX8_comeTo 4 = .ok (.iload_n 2, 1) := by decide +kernel
theorem dX8_comeTo_5 : decode cX8_comeTo 5 = .ok (.invokevirtual 138, 3) := by decide +kernel
theorem dX8_comeTo_8 : decode cX8_comeTo 8 = .ok (.astore_n 3, 1) := by decide +kernel
theorem dX8_comeTo_9 : decode cX8_comeTo 9 = .ok (.aload_n 1, 1) := by decide +kernel
theorem dX8_comeTo_10 : decode cX8_comeTo 10 = .ok (.iload_n 2, 1) := by decide +kernel
theorem dX8_comeTo_11 : decode cX8_comeTo 11 = .ok (.putfield 284, 3) := by decide +kernel
theorem dX8_comeTo_14 : decode cX8_comeTo 14 = .ok (.aload_n 1, 1) := by decide +kernel
theorem dX8_comeTo_15 : decode cX8_comeTo 15 = .ok (.aload_n 1, 1) := by decide +kernel
theorem dX8_comeTo_16 : decode cX8_comeTo 16 = .ok (.getfield 277, 3) := by decide +kernel
theorem dX8_comeTo_19 : decode cX8_comeTo 19 = .ok (.putfield 365, 3) := by decide +kernel
theorem dX8_comeTo_22 : decode cX8_comeTo 22 = .ok (.aload_n 1, 1) := by decide +kernel
theorem dX8_comeTo_23 : decode cX8_comeTo 23 = .ok (.getfield 377, 3) := by decide +kernel
theorem dX8_comeTo_26 : decode cX8_comeTo 26 = .ok (.ifCond .eq 22, 3) := by decide +kernel
theorem dX8_comeTo_29 : decode cX8_comeTo 29 = .ok (.aload_n 3, 1) := by decide +kernel
theorem dX8_comeTo_30 : decode cX8_comeTo 30 = .ok (.ifnull 18, 3) := by decide +kernel
theorem dX8_comeTo_33 : decode cX8_comeTo 33 = .ok (.aload_n 3, 1) := by decide +kernel
theorem dX8_comeTo_34 : decode cX8_comeTo 34 = .ok (.getfield 167, 3) := by decide +kernel
theorem dX8_comeTo_37 : decode cX8_comeTo 37 = .ok (.ifCond .eq 11, 3) := by decide +kernel
theorem dX8_comeTo_40 : decode cX8_comeTo 40 = .ok (.aload_n 1, 1) := by decide +kernel
theorem dX8_comeTo_41 : decode cX8_comeTo 41 = .ok (.iconst 2, 1) := by decide +kernel
theorem dX8_comeTo_42 : decode cX8_comeTo 42 = .ok (.putfield 238, 3) := by decide +kernel
theorem dX8_comeTo_45 : decode cX8_comeTo 45 = .ok (.goto 20, 3) := by decide +kernel
theorem dX8_comeTo_48 : decode cX8_comeTo 48 = .ok (.aload_n 1, 1) := by decide +kernel
theorem dX8_comeTo_49 : decode cX8_comeTo 49 = .ok (.getfield 371, 3) := by decide +kernel
theorem dX8_comeTo_52 : decode cX8_comeTo 52 = .ok (.aload_n 1, 1) := by decide +kernel
theorem dX8_comeTo_53 : decode cX8_comeTo 53 = .ok (.getfield 340, 3) := by decide +kernel
theorem dX8_comeTo_56 : decode cX8_comeTo 56 = .ok (.arraylength, 1) := by decide +kernel
theorem dX8_comeTo_57 : decode cX8_comeTo 57 = .ok (.if_icmp .lt 8, 3) := by decide +kernel
theorem dX8_comeTo_60 : decode cX8_comeTo 60 = .ok (.aload_n 1, 1) := by decide +kernel
theorem dX8_comeTo_61 : decode cX8_comeTo 61 = .ok (.iconst 1, 1) := by decide +kernel
theorem dX8_comeTo_62 : decode cX8_comeTo 62 = .ok (.putfield 238, 3) := by decide +kernel
theorem dX8_comeTo_65 : decode cX8_comeTo 65 = .ok (.return_, 1) := by decide +kernel
theorem dX8_isOutside_0 : decode cX8_isOutside 0 = .ok (.iload_n 0, 1) := by decide +kernel
theorem dX8_isOutside_1 : decode cX8_isOutside 1 = .ok (.iload_n 1, 1) := by decide +kernel
theorem dX8_isOutside_2 : decode cX8_isOutside 2 = .ok (.if_icmp .lt 8, 3) := by decide +kernel
theorem dX8_isOutside_5 : decode cX8_isOutside 5 = .ok (.iload_n 0, 1) := by decide +kernel
theorem dX8_isOutside_6 : decode cX8_isOutside 6 = .ok (.iload_n 2, 1) := by decide +kernel
theorem dX8_isOutside_7 : decode cX8_isOutside 7 = .ok (.if_icmp .le 7, 3) := by decide +kernel
theorem dX8_isOutside_10 : decode cX8_isOutside 10 = .ok (.iconst 1, 1) := by decide +kernel
theorem dX8_isOutside_11 : decode cX8_isOutside 11 = .ok (.goto 4, 3) := by decide +kernel
theorem dX8_isOutside_14 : decode cX8_isOutside 14 = .ok (.iconst 0, 1) := by decide +kernel
theorem dX8_isOutside_15 : decode cX8_isOutside 15 = .ok (.ireturn, 1) := by decide +kernel
theorem dX8_roundedUp_0 : decode cX8_roundedUp 0 = .ok (.iload_n 1, 1) := by decide +kernel
theorem dX8_roundedUp_1 : decode cX8_roundedUp 1 = .ok (.ifCond .gt 7, 3) := by decide +kernel
theorem dX8_roundedUp_4 : decode cX8_roundedUp 4 = .ok (.iconst 0, 1) := by decide +kernel
theorem dX8_roundedUp_5 : decode cX8_roundedUp 5 = .ok (.goto 10, 3) := by decide +kernel
theorem dX8_roundedUp_8 : decode cX8_roundedUp 8 = .ok (.iload_n 0, 1) := by decide +kernel
theorem dX8_roundedUp_9 : decode cX8_roundedUp 9 = .ok (.iload_n 1, 1) := by decide +kernel
theorem dX8_roundedUp_10 : decode cX8_roundedUp 10 = .ok (.iadd, 1) := by decide +kernel
theorem dX8_roundedUp_11 : decode cX8_roundedUp 11 = .ok (.iconst 1, 1) := by decide +kernel
theorem dX8_roundedUp_12 : decode cX8_roundedUp 12 = .ok (.isub, 1) := by decide +kernel
theorem dX8_roundedUp_13 : decode cX8_roundedUp 13 = .ok (.iload_n 1, 1) := by decide +kernel
theorem dX8_roundedUp_14 : decode cX8_roundedUp 14 = .ok (.idiv, 1) := by decide +kernel
theorem dX8_roundedUp_15 : decode cX8_roundedUp 15 = .ok (.ireturn, 1) := by decide +kernel
theorem dX8_isCode_0 : decode cX8_isCode 0 = .ok (.iload_n 0, 1) := by decide +kernel
theorem dX8_isCode_1 : decode cX8_isCode 1 = .ok (.ifCond .lt 7, 3) := by decide +kernel
theorem dX8_isCode_4 : decode cX8_isCode 4 = .ok (.iconst 1, 1) := by decide +kernel
theorem dX8_isCode_5 : decode cX8_isCode 5 = .ok (.goto 4, 3) := by decide +kernel
theorem dX8_isCode_8 : decode cX8_isCode 8 = .ok (.iconst 0, 1) := by decide +kernel
theorem dX8_isCode_9 : decode cX8_isCode 9 = .ok (.ireturn, 1) := by decide +kernel
theorem dX8_plainOf_0 : decode cX8_plainOf 0 = .ok (.iconst (-1), 1) := by decide +kernel
theorem dX8_plainOf_1 : decode cX8_plainOf 1 = .ok (.iload_n 0, 1) := by decide +kernel
theorem dX8_plainOf_2 : decode cX8_plainOf 2 = .ok (.isub, 1) := by decide +kernel
theorem dX8_plainOf_3 : decode cX8_plainOf 3 = .ok (.iconst 1, 1) := by decide +kernel
theorem dX8_plainOf_4 : decode cX8_plainOf 4 = .ok (.isub, 1) := by decide +kernel
theorem dX8_plainOf_5 : decode cX8_plainOf 5 = .ok (.ireturn, 1) := by decide +kernel
theorem dX8_ideaOfPlain_0 : decode cX8_ideaOfPlain 0 = .ok (.iconst (-1), 1) := by decide +kernel
theorem dX8_ideaOfPlain_1 : decode cX8_ideaOfPlain 1 = .ok (.iload_n 0, 1) := by decide +kernel
theorem dX8_ideaOfPlain_2 : decode cX8_ideaOfPlain 2 = .ok (.isub, 1) := by decide +kernel
theorem dX8_ideaOfPlain_3 : decode cX8_ideaOfPlain 3 = .ok (.iconst 1, 1) := by decide +kernel
theorem dX8_ideaOfPlain_4 : decode cX8_ideaOfPlain 4 = .ok (.isub, 1) := by decide +kernel
theorem dX8_ideaOfPlain_5 : decode cX8_ideaOfPlain 5 = .ok (.ireturn, 1) := by decide +kernel
theorem dX8_weightOf_0 : decode cX8_weightOf 0 = .ok (.iconst 1, 1) := by decide +kernel
theorem dX8_weightOf_1 : decode cX8_weightOf 1 = .ok (.istore_n 1, 1) := by decide +kernel
theorem dX8_weightOf_2 : decode cX8_weightOf 2 = .ok (.iload_n 0, 1) := by decide +kernel
theorem dX8_weightOf_3 : decode cX8_weightOf 3 = .ok (.istore_n 2, 1) := by decide +kernel
theorem dX8_weightOf_4 : decode cX8_weightOf 4 = .ok (.iload_n 2, 1) := by decide +kernel
theorem dX8_weightOf_5 : decode cX8_weightOf 5 = .ok (.iconst 4, 1) := by decide +kernel
theorem dX8_weightOf_6 : decode cX8_weightOf 6 = .ok (.if_icmp .ge 14, 3) := by decide +kernel
theorem dX8_weightOf_9 : decode cX8_weightOf 9 = .ok (.iload_n 1, 1) := by decide +kernel
theorem dX8_weightOf_10 : decode cX8_weightOf 10 = .ok (.bipush 26, 2) := by decide +kernel
theorem dX8_weightOf_12 : decode cX8_weightOf 12 = .ok (.imul, 1) := by decide +kernel
theorem dX8_weightOf_13 : decode cX8_weightOf 13 = .ok (.istore_n 1, 1) := by decide +kernel
theorem dX8_weightOf_14 : decode cX8_weightOf 14 = .ok (.iinc 2 1, 3) := by decide +kernel
theorem dX8_weightOf_17 : decode cX8_weightOf 17 = .ok (.goto (-13), 3) := by decide +kernel
theorem dX8_weightOf_20 : decode cX8_weightOf 20 = .ok (.iload_n 1, 1) := by decide +kernel
theorem dX8_weightOf_21 : decode cX8_weightOf 21 = .ok (.ireturn, 1) := by decide +kernel
theorem dX8_letterOf_0 : decode cX8_letterOf 0 = .ok (.iload_n 1, 1) := by decide +kernel
theorem dX8_letterOf_1 : decode cX8_letterOf 1 = .ok (.invokestatic 380, 3) := by decide +kernel
theorem dX8_letterOf_4 : decode cX8_letterOf 4 = .ok (.istore_n 2, 1) := by decide +kernel
theorem dX8_letterOf_5 : decode cX8_letterOf 5 = .ok (.iload_n 2, 1) := by decide +kernel
theorem dX8_letterOf_6 : decode cX8_letterOf 6 = .ok (.ifCond .gt 7, 3) := by decide +kernel
theorem dX8_letterOf_9 : decode cX8_letterOf 9 = .ok (.iconst 0, 1) := by decide +kernel
theorem dX8_letterOf_10 : decode cX8_letterOf 10 = .ok (.goto 9, 3) := by decide +kernel
theorem dX8_letterOf_13 : decode cX8_letterOf 13 = .ok (.iload_n 0, 1) := by decide +kernel
theorem dX8_letterOf_14 : decode cX8_letterOf 14 = .ok (.iload_n 2, 1) := by decide +kernel
theorem dX8_letterOf_15 : decode cX8_letterOf 15 = .ok (.idiv, 1) := by decide +kernel
theorem dX8_letterOf_16 : decode cX8_letterOf 16 = .ok (.bipush 26, 2) := by decide +kernel
theorem dX8_letterOf_18 : decode cX8_letterOf 18 = .ok (.irem, 1) := by decide +kernel
theorem dX8_letterOf_19 : decode cX8_letterOf 19 = .ok (.ireturn, 1) := by decide +kernel
theorem dX8_withLetter_0 : decode cX8_withLetter 0 = .ok (.iload_n 0, 1) := by decide +kernel
theorem dX8_withLetter_1 : decode cX8_withLetter 1 = .ok (.iload_n 2, 1) := by decide +kernel
theorem dX8_withLetter_2 : decode cX8_withLetter 2 = .ok (.iload_n 0, 1) := by decide +kernel
theorem dX8_withLetter_3 : decode cX8_withLetter 3 = .ok (.iload_n 1, 1) := by decide +kernel
theorem dX8_withLetter_4 : decode cX8_withLetter 4 = .ok (.invokestatic 383, 3) := by decide +kernel
theorem dX8_withLetter_7 : decode cX8_withLetter 7 = .ok (.isub, 1) := by decide +kernel
theorem dX8_withLetter_8 : decode cX8_withLetter 8 = .ok (.iload_n 1, 1) := by decide +kernel
theorem dX8_withLetter_9 : decode cX8_withLetter 9 = .ok (.invokestatic 380, 3) := by decide +kernel
theorem dX8_withLetter_12 : decode cX8_withLetter 12 = .ok (.imul, 1) := by decide +kernel
theorem dX8_withLetter_13 : decode cX8_withLetter 13 = .ok (.iadd, 1) := by decide +kernel
theorem dX8_withLetter_14 : decode cX8_withLetter 14 = .ok (.ireturn, 1) := by decide +kernel
theorem dX8_vowelsIn_0 : decode cX8_vowelsIn 0 = .ok (.iconst 0, 1) := by decide +kernel
theorem dX8_vowelsIn_1 : decode cX8_vowelsIn 1 = .ok (.istore_n 1, 1) := by decide +kernel
theorem dX8_vowelsIn_2 : decode cX8_vowelsIn 2 = .ok (.iconst 0, 1) := by decide +kernel
theorem dX8_vowelsIn_3 : decode cX8_vowelsIn 3 = .ok (.istore_n 2, 1) := by decide +kernel
theorem dX8_vowelsIn_4 : decode cX8_vowelsIn 4 = .ok (.iload_n 2, 1) := by decide +kernel
theorem dX8_vowelsIn_5 : decode cX8_vowelsIn 5 = .ok (.iconst 5, 1) := by decide +kernel
theorem dX8_vowelsIn_6 : decode cX8_vowelsIn 6 = .ok (.if_icmp .ge 45, 3) := by decide +kernel
theorem dX8_vowelsIn_9 : decode cX8_vowelsIn 9 = .ok (.iload_n 0, 1) := by decide +kernel
theorem dX8_vowelsIn_10 : decode cX8_vowelsIn 10 = .ok (.iload_n 2, 1) := by decide +kernel
theorem dX8_vowelsIn_11 : decode cX8_vowelsIn 11 = .ok (.invokestatic 383, 3) := by decide +kernel
theorem dX8_vowelsIn_14 : decode cX8_vowelsIn 14 = .ok (.istore_n 3, 1) := by decide +kernel
theorem dX8_vowelsIn_15 : decode cX8_vowelsIn 15 = .ok (.iload_n 3, 1) := by decide +kernel
theorem dX8_vowelsIn_16 : decode cX8_vowelsIn 16 = .ok (.ifCond .eq 26, 3) := by decide +kernel
theorem dX8_vowelsIn_19 : decode cX8_vowelsIn 19 = .ok (.iload_n 3, 1) := by decide +kernel
theorem dX8_vowelsIn_20 : decode cX8_vowelsIn 20 = .ok (.iconst 4, 1) := by decide +kernel
theorem dX8_vowelsIn_21 : decode cX8_vowelsIn 21 = .ok (.if_icmp .eq 21, 3) := by decide +kernel
theorem dX8_vowelsIn_24 : decode cX8_vowelsIn 24 = .ok (.iload_n 3, 1) := by decide +kernel
theorem dX8_vowelsIn_25 : decode cX8_vowelsIn 25 = .ok (.bipush 8, 2) := by decide +kernel
theorem dX8_vowelsIn_27 : decode cX8_vowelsIn 27 = .ok (.if_icmp .eq 15, 3) := by decide +kernel
theorem dX8_vowelsIn_30 : decode cX8_vowelsIn 30 = .ok (.iload_n 3, 1) := by decide +kernel
theorem dX8_vowelsIn_31 : decode cX8_vowelsIn 31 = .ok (.bipush 14, 2) := by decide +kernel
theorem dX8_vowelsIn_33 : decode cX8_vowelsIn 33 = .ok (.if_icmp .eq 9, 3) := by decide +kernel
theorem dX8_vowelsIn_36 : decode cX8_vowelsIn 36 = .ok (.iload_n 3, 1) := by decide +kernel
theorem dX8_vowelsIn_37 : decode cX8_vowelsIn 37 = .ok (.bipush 20, 2) := by decide +kernel
theorem dX8_vowelsIn_39 : decode cX8_vowelsIn 39 = .ok (.if_icmp .ne 6, 3) := by decide +kernel
theorem dX8_vowelsIn_42 : decode cX8_vowelsIn 42 = .ok (.iinc 1 1, 3) := by decide +kernel
theorem dX8_vowelsIn_45 : decode cX8_vowelsIn 45 = .ok (.iinc 2 1, 3) := by decide +kernel
theorem dX8_vowelsIn_48 : decode cX8_vowelsIn 48 = .ok (.goto (-44), 3) := by decide +kernel
theorem dX8_vowelsIn_51 : decode cX8_vowelsIn 51 = .ok (.iload_n 1, 1) := by decide +kernel
theorem dX8_vowelsIn_52 : decode cX8_vowelsIn 52 = .ok (.ireturn, 1) := by decide +kernel
theorem dX8_partsOf_0 : decode cX8_partsOf 0 = .ok (.iconst 0, 1) := by decide +kernel
theorem dX8_partsOf_1 : decode cX8_partsOf 1 = .ok (.istore_n 2, 1) := by decide +kernel
theorem dX8_partsOf_2 : decode cX8_partsOf 2 = .ok (.iconst 0, 1) := by decide +kernel
theorem dX8_partsOf_3 : decode cX8_partsOf 3 = .ok (.istore_n 3, 1) := by decide +kernel
theorem dX8_partsOf_4 : decode cX8_partsOf 4 = .ok (.iload_n 3, 1) := by decide +kernel
theorem dX8_partsOf_5 : decode cX8_partsOf 5 = .ok (.iconst 5, 1) := by decide +kernel
theorem dX8_partsOf_6 : decode cX8_partsOf 6 = .ok (.if_icmp .ge 25, 3) := by decide +kernel
theorem dX8_partsOf_9 : decode cX8_partsOf 9 = .ok (.iload_n 0, 1) := by decide +kernel
theorem dX8_partsOf_10 : decode cX8_partsOf 10 = .ok (.iload_n 3, 1) := by decide +kernel
theorem dX8_partsOf_11 : decode cX8_partsOf 11 = .ok (.invokestatic 383, 3) := by decide +kernel
theorem dX8_partsOf_14 : decode cX8_partsOf 14 = .ok (.iload_n 1, 1) := by decide +kernel
theorem dX8_partsOf_15 : decode cX8_partsOf 15 = .ok (.iload_n 3, 1) := by decide +kernel
theorem dX8_partsOf_16 : decode cX8_partsOf 16 = .ok (.invokestatic 383, 3) := by decide +kernel
theorem dX8_partsOf_19 : decode cX8_partsOf 19 = .ok (.if_icmp .eq 6, 3) := by decide +kernel
theorem dX8_partsOf_22 : decode cX8_partsOf 22 = .ok (.iinc 2 1, 3) := by decide +kernel
theorem dX8_partsOf_25 : decode cX8_partsOf 25 = .ok (.iinc 3 1, 3) := by decide +kernel
theorem dX8_partsOf_28 : decode cX8_partsOf 28 = .ok (.goto (-24), 3) := by decide +kernel
theorem dX8_partsOf_31 : decode cX8_partsOf 31 = .ok (.iload_n 2, 1) := by decide +kernel
theorem dX8_partsOf_32 : decode cX8_partsOf 32 = .ok (.ireturn, 1) := by decide +kernel
theorem dX8_firstPart_0 : decode cX8_firstPart 0 = .ok (.iconst 0, 1) := by decide +kernel
theorem dX8_firstPart_1 : decode cX8_firstPart 1 = .ok (.istore_n 2, 1) := by decide +kernel
theorem dX8_firstPart_2 : decode cX8_firstPart 2 = .ok (.iload_n 2, 1) := by decide +kernel
theorem dX8_firstPart_3 : decode cX8_firstPart 3 = .ok (.iconst 5, 1) := by decide +kernel
theorem dX8_firstPart_4 : decode cX8_firstPart 4 = .ok (.if_icmp .ge 22, 3) := by decide +kernel
theorem dX8_firstPart_7 : decode cX8_firstPart 7 = .ok (.iload_n 0, 1) := by decide +kernel
theorem dX8_firstPart_8 : decode cX8_firstPart 8 = .ok (.iload_n 2, 1) := by decide +kernel
theorem dX8_firstPart_9 : decode cX8_firstPart 9 = .ok (.invokestatic 383, 3) := by decide +kernel
theorem dX8_firstPart_12 : decode cX8_firstPart 12 = .ok (.iload_n 1, 1) := by decide +kernel
theorem dX8_firstPart_13 : decode cX8_firstPart 13 = .ok (.iload_n 2, 1) := by decide +kernel
theorem dX8_firstPart_14 : decode cX8_firstPart 14 = .ok (.invokestatic 383, 3) := by decide +kernel
theorem dX8_firstPart_17 : decode cX8_firstPart 17 = .ok (.if_icmp .ne 9, 3) := by decide +kernel
theorem dX8_firstPart_20 : decode cX8_firstPart 20 = .ok (.iinc 2 1, 3) := by decide +kernel
theorem dX8_firstPart_23 : decode cX8_firstPart 23 = .ok (.goto (-21), 3) := by decide +kernel
theorem dX8_firstPart_26 : decode cX8_firstPart 26 = .ok (.iload_n 2, 1) := by decide +kernel
theorem dX8_firstPart_27 : decode cX8_firstPart 27 = .ok (.ireturn, 1) := by decide +kernel
theorem dX8_isTurned_0 : decode cX8_isTurned 0 = .ok (.iload_n 0, 1) := by decide +kernel
theorem dX8_isTurned_1 : decode cX8_isTurned 1 = .ok (.iload_n 1, 1) := by decide +kernel
theorem dX8_isTurned_2 : decode cX8_isTurned 2 = .ok (.invokestatic 316, 3) := by decide +kernel
theorem dX8_isTurned_5 : decode cX8_isTurned 5 = .ok (.istore_n 2, 1) := by decide +kernel
theorem dX8_isTurned_6 : decode cX8_isTurned 6 = .ok (.iload_n 2, 1) := by decide +kernel
theorem dX8_isTurned_7 : decode cX8_isTurned 7 = .ok (.iconst 4, 1) := by decide +kernel
theorem dX8_isTurned_8 : decode cX8_isTurned 8 = .ok (.if_icmp .ge 46, 3) := by decide +kernel
theorem dX8_isTurned_11 : decode cX8_isTurned 11 = .ok (.iload_n 0, 1) := by decide +kernel
theorem dX8_isTurned_12 : decode cX8_isTurned 12 = .ok (.iload_n 1, 1) := by decide +kernel
theorem dX8_isTurned_13 : decode cX8_isTurned 13 = .ok (.invokestatic 386, 3) := by decide +kernel
theorem dX8_isTurned_16 : decode cX8_isTurned 16 = .ok (.iconst 2, 1) := by decide +kernel
theorem dX8_isTurned_17 : decode cX8_isTurned 17 = .ok (.if_icmp .ne 37, 3) := by decide +kernel
theorem dX8_isTurned_20 : decode cX8_isTurned 20 = .ok (.iload_n 0, 1) := by decide +kernel
theorem dX8_isTurned_21 : decode cX8_isTurned 21 = .ok (.iload_n 2, 1) := by decide +kernel
theorem dX8_isTurned_22 : decode cX8_isTurned 22 = .ok (.invokestatic 383, 3) := by decide +kernel
theorem dX8_isTurned_25 : decode cX8_isTurned 25 = .ok (.iload_n 1, 1) := by decide +kernel
theorem dX8_isTurned_26 : decode cX8_isTurned 26 = .ok (.iload_n 2, 1) := by decide +kernel
theorem dX8_isTurned_27 : decode cX8_isTurned 27 = .ok (.iconst 1, 1) := by decide +kernel
theorem dX8_isTurned_28 : decode cX8_isTurned 28 = .ok (.iadd, 1) := by decide +kernel
theorem dX8_isTurned_29 : decode cX8_isTurned 29 = .ok (.invokestatic 383, 3) := by decide +kernel
theorem dX8_isTurned_32 : decode cX8_isTurned 32 = .ok (.if_icmp .ne 22, 3) := by decide +kernel
theorem dX8_isTurned_35 : decode cX8_isTurned 35 = .ok (.iload_n 0, 1) := by decide +kernel
theorem dX8_isTurned_36 : decode cX8_isTurned 36 = .ok (.iload_n 2, 1) := by decide +kernel
theorem dX8_isTurned_37 : decode cX8_isTurned 37 = .ok (.iconst 1, 1) := by decide +kernel
theorem dX8_isTurned_38 : decode cX8_isTurned 38 = .ok (.iadd, 1) := by decide +kernel
theorem dX8_isTurned_39 : decode cX8_isTurned 39 = .ok (.invokestatic 383, 3) := by decide +kernel
theorem dX8_isTurned_42 : decode cX8_isTurned 42 = .ok (.iload_n 1, 1) := by decide +kernel
theorem dX8_isTurned_43 : decode cX8_isTurned 43 = .ok (.iload_n 2, 1) := by decide +kernel
theorem dX8_isTurned_44 : decode cX8_isTurned 44 = .ok (.invokestatic 383, 3) := by decide +kernel
theorem dX8_isTurned_47 : decode cX8_isTurned 47 = .ok (.if_icmp .ne 7, 3) := by decide +kernel
theorem dX8_isTurned_50 : decode cX8_isTurned 50 = .ok (.iconst 1, 1) := by decide +kernel
theorem dX8_isTurned_51 : decode cX8_isTurned 51 = .ok (.goto 4, 3) := by decide +kernel
theorem dX8_isTurned_54 : decode cX8_isTurned 54 = .ok (.iconst 0, 1) := by decide +kernel
theorem dX8_isTurned_55 : decode cX8_isTurned 55 = .ok (.ireturn, 1) := by decide +kernel
