theorem dX9_init_0 : decode cX9_init 0 = .ok (.aload_n 0, 1) := by decide +kernel
theorem dX9_init_1 : decode cX9_init 1 = .ok (.invokespecial 1, 3) := by decide +kernel
theorem dX9_init_4 : decode cX9_init 4 = .ok (.aload_n 0, 1) := by decide +kernel
theorem dX9_init_5 : decode cX9_init 5 = .ok (.bipush 30, 2) := by decide +kernel
theorem dX9_init_7 : decode cX9_init 7 = .ok (.newarray .int, 2) := by decide +kernel
theorem dX9_init_9 : decode cX9_init 9 = .ok (.putfield 7, 3) := by decide +kernel
theorem dX9_init_12 : decode cX9_init 12 = .ok (.aload_n 0, 1) := by decide +kernel
theorem dX9_init_13 : decode cX9_init 13 = .ok (.bipush 40, 2) := by decide +kernel
theorem dX9_init_15 : decode cX9_init 15 = .ok (.newarray .int, 2) := by decide +kernel
theorem dX9_init_17 : decode cX9_init 17 = .ok (.putfield 13, 3) := by decide +kernel
theorem dX9_init_20 : decode cX9_init 20 = .ok (.aload_n 0, 1) := by decide +kernel
theorem dX9_init_21 : decode cX9_init 21 = .ok (.sipush 160, 3) := by decide +kernel
theorem dX9_init_24 : decode cX9_init 24 = .ok (.newarray .int, 2) := by decide +kernel
theorem dX9_init_26 : decode cX9_init 26 = .ok (.putfield 16, 3) := by decide +kernel
theorem dX9_init_29 : decode cX9_init 29 = .ok (.aload_n 0, 1) := by decide +kernel
theorem dX9_init_30 : decode cX9_init 30 = .ok (.bipush 8, 2) := by decide +kernel
theorem dX9_init_32 : decode cX9_init 32 = .ok (.newarray .boolean, 2) := by decide +kernel
theorem dX9_init_34 : decode cX9_init 34 = .ok (.putfield 19, 3) := by decide +kernel
theorem dX9_init_37 : decode cX9_init 37 = .ok (.aload_n 0, 1) := by decide +kernel
theorem dX9_init_38 : decode cX9_init 38 = .ok (.bipush 8, 2) := by decide +kernel
theorem dX9_init_40 : decode cX9_init 40 = .ok (.newarray .int, 2) := by decide +kernel
theorem dX9_init_42 : decode cX9_init 42 = .ok (.putfield 23, 3) := by decide +kernel
theorem dX9_init_45 : decode cX9_init 45 = .ok (.aload_n 0, 1) := by decide +kernel
theorem dX9_init_46 : decode cX9_init 46 = .ok (.bipush 8, 2) := by decide +kernel
theorem dX9_init_48 : decode cX9_init 48 = .ok (.newarray .int, 2) := by decide +kernel
theorem dX9_init_50 : decode cX9_init 50 = .ok (.putfield 26, 3) := by decide +kernel
theorem dX9_init_53 : decode cX9_init 53 = .ok (.aload_n 0, 1) := by decide +kernel
theorem dX9_init_54 : decode cX9_init 54 = .ok (.bipush 8, 2) := by decide +kernel
theorem dX9_init_56 : decode cX9_init 56 = .ok (.newarray .int, 2) := by decide +kernel
theorem dX9_init_58 : decode cX9_init 58 = .ok (.putfield 29, 3) := by decide +kernel
theorem dX9_init_61 : decode cX9_init 61 = .ok (.aload_n 0, 1) := by decide +kernel
theorem dX9_init_62 : decode cX9_init 62 = .ok (.bipush 12, 2) := by decide +kernel
theorem dX9_init_64 : decode cX9_init 64 = .ok (.newarray .int, 2) := by decide +kernel
theorem dX9_init_66 : decode cX9_init 66 = .ok (.putfield 32, 3) := by decide +kernel
theorem dX9_init_69 : decode cX9_init 69 = .ok (.aload_n 0, 1) := by decide +kernel
theorem dX9_init_70 : decode cX9_init 70 = .ok (.bipush 12, 2) := by decide +kernel
theorem dX9_init_72 : decode cX9_init 72 = .ok (.newarray .int, 2) := by decide +kernel
theorem dX9_init_74 : decode cX9_init 74 = .ok (.putfield 35, 3) := by decide +kernel
theorem dX9_init_77 : decode cX9_init 77 = .ok (.aload_n 0, 1) := by decide +kernel
theorem dX9_init_78 : decode cX9_init 78 = .ok (.bipush 12, 2) := by decide +kernel
theorem dX9_init_80 : decode cX9_init 80 = .ok (.newarray .int, 2) := by decide +kernel
theorem dX9_init_82 : decode cX9_init 82 = .ok (.putfield 38, 3) := by decide +kernel
theorem dX9_init_85 : decode cX9_init 85 = .ok (.aload_n 0, 1) := by decide +kernel
theorem dX9_init_86 : decode cX9_init 86 = .ok (.bipush 12, 2) := by decide +kernel
theorem dX9_init_88 : decode cX9_init 88 = .ok (.newarray .int, 2) := by decide +kernel
theorem dX9_init_90 : decode cX9_init 90 = .ok (.putfield 41, 3) := by decide +kernel
theorem dX9_init_93 : decode cX9_init 93 = .ok (.aload_n 0, 1) := by decide +kernel
theorem dX9_init_94 : decode cX9_init 94 = .ok (.bipush 12, 2) := by decide +kernel
theorem dX9_init_96 : decode cX9_init 96 = .ok (.newarray .boolean, 2) := by decide +kernel
theorem dX9_init_98 : decode cX9_init 98 = .ok (.putfield 44, 3) := by decide +kernel
theorem dX9_init_101 : decode cX9_init 101 = .ok (.aload_n 0, 1) := by decide +kernel
theorem dX9_init_102 : decode cX9_init 102 = .ok (.bipush 13, 2) := by decide +kernel
theorem dX9_init_104 : decode cX9_init 104 = .ok (.newarray .int, 2) := by decide +kernel
theorem dX9_init_106 : decode cX9_init 106 = .ok (.putfield 47, 3) := by decide +kernel
theorem dX9_init_109 : decode cX9_init 109 = .ok (.aload_n 0, 1) := by decide +kernel
theorem dX9_init_110 : decode cX9_init 110 = .ok (.bipush 13, 2) := by decide +kernel
theorem dX9_init_112 : decode cX9_init 112 = .ok (.newarray .int, 2) := by decide +kernel
theorem dX9_init_114 : decode cX9_init 114 = .ok (.putfield 50, 3) := by decide +kernel
theorem dX9_init_117 : decode cX9_init 117 = .ok (.aload_n 0, 1) := by decide +kernel
theorem dX9_init_118 : decode cX9_init 118 = .ok (.bipush 13, 2) := by decide +kernel
theorem dX9_init_120 : decode cX9_init 120 = .ok (.newarray .int, 2) := by decide +kernel
theorem dX9_init_122 : decode cX9_init 122 = .ok (.putfield 53, 3) := by decide +kernel
theorem dX9_init_125 : decode cX9_init 125 = .ok (.aload_n 0, 1) := by decide +kernel
theorem dX9_init_126 : decode cX9_init 126 = .ok (.bipush 13, 2) := by decide +kernel
theorem dX9_init_128 : decode cX9_init 128 = .ok (.newarray .int, 2) := by decide +kernel
theorem dX9_init_130 : decode cX9_init 130 = .ok (.putfield 56, 3) := by decide +kernel
theorem dX9_init_133 : decode cX9_init 133 = .ok (.aload_n 0, 1) := by decide +kernel
theorem dX9_init_134 : decode cX9_init 134 = .ok (.bipush 24, 2) := by decide +kernel
theorem dX9_init_136 : decode cX9_init 136 = .ok (.newarray .int, 2) := by decide +kernel
theorem dX9_init_138 : decode cX9_init 138 = .ok (.putfield 59, 3) := by decide +kernel
theorem dX9_init_141 : decode cX9_init 141 = .ok (.aload_n 0, 1) := by decide +kernel
theorem dX9_init_142 : decode cX9_init 142 = .ok (.sipush 625, 3) := by decide +kernel
theorem dX9_init_145 : decode cX9_init 145 = .ok (.newarray .int, 2) := by decide +kernel
theorem dX9_init_147 : decode cX9_init 147 = .ok (.putfield 62, 3) := by decide +kernel
theorem dX9_init_150 : decode cX9_init 150 = .ok (.aload_n 0, 1) := by decide +kernel
theorem dX9_init_151 : decode cX9_init 151 = .ok (.bipush 24, 2) := by decide +kernel
theorem dX9_init_153 : decode cX9_init 153 = .ok (.newarray .int, 2) := by decide +kernel
theorem dX9_init_155 : decode cX9_init 155 = .ok (.putfield 65, 3) := by decide +kernel
theorem dX9_init_158 : decode cX9_init 158 = .ok (.aload_n 0, 1) := by decide +kernel
theorem dX9_init_159 : decode cX9_init 159 = .ok (.bipush 60, 2) := by decide +kernel
theorem dX9_init_161 : decode cX9_init 161 = .ok (.newarray .int, 2) := by decide +kernel
theorem dX9_init_163 : decode cX9_init 163 = .ok (.putfield 68, 3) := by decide +kernel
theorem dX9_init_166 : decode cX9_init 166 = .ok (.aload_n 0, 1) := by decide +kernel
theorem dX9_init_167 : decode cX9_init 167 = .ok (.bipush 60, 2) := by decide +kernel
theorem dX9_init_169 : decode cX9_init 169 = .ok (.newarray .int, 2) := by decide +kernel
theorem dX9_init_171 : decode cX9_init 171 = .ok (.putfield 71, 3) := by decide +kernel
theorem dX9_init_174 : decode cX9_init 174 = .ok (.aload_n 0, 1) := by decide +kernel
theorem dX9_init_175 : decode cX9_init 175 = .ok (.bipush 60, 2) := by decide +kernel
theorem dX9_init_177 : decode cX9_init 177 = .ok (.newarray .int, 2) := by decide +kernel
theorem dX9_init_179 : decode cX9_init 179 = .ok (.putfield 74, 3) := by decide +kernel
theorem dX9_init_182 : decode cX9_init 182 = .ok (.aload_n 0, 1) := by decide +kernel
theorem dX9_init_183 : decode cX9_init 183 = .ok (.bipush 60, 2) := by decide +kernel
theorem dX9_init_185 : decode cX9_init 185 = .ok (.newarray .int, 2) := by decide +kernel
theorem dX9_init_187 : decode cX9_init 187 = .ok (.putfield 77, 3) := by decide +kernel
theorem dX9_init_190 : decode cX9_init 190 = .ok (.aload_n 0, 1) := by decide +kernel
theorem dX9_init_191 : decode cX9_init 191 = .ok (.bipush 60, 2) := by decide +kernel
theorem dX9_init_193 : decode cX9_init 193 = .ok (.newarray .int, 2) := by decide +kernel
theorem dX9_init_195 : decode cX9_init 195 = .ok (.putfield 80, 3) := by decide +kernel
theorem dX9_init_198 : decode cX9_init 198 = .ok (.aload_n 0, 1) := by decide +kernel
theorem dX9_init_199 : decode cX9_init 199 = .ok (.bipush 60, 2) := by decide +kernel
theorem dX9_init_201 : decode cX9_init 201 = .ok (.newarray .int, 2) := by decide +kernel
theorem dX9_init_203 : decode cX9_init 203 = .ok (.putfield 83, 3) := by decide +kernel
theorem dX9_init_206 : decode cX9_init 206 = .ok (.aload_n 0, 1) := by decide +kernel
theorem dX9_init_207 : decode cX9_init 207 = .ok (.bipush 60, 2) := by decide +kernel
theorem dX9_init_209 : decode cX9_init 209 = .ok (.newarray .int, 2) := by decide +kernel
theorem dX9_init_211 : decode cX9_init 211 = .ok (.putfield 86, 3) := by decide +kernel
theorem dX9_init_214 : decode cX9_init 214 = .ok (.aload_n 0, 1) := by decide +kernel
theorem dX9_init_215 : decode cX9_init 215 = .ok (.bipush 60, 2) := by decide +kernel
theorem dX9_init_217 : decode cX9_init 217 = .ok (.newarray .int, 2) := by decide +kernel
theorem dX9_init_219 : decode cX9_init 219 = .ok (.putfield 89, 3) := by decide +kernel
theorem dX9_init_222 : decode cX9_init 222 = .ok (.aload_n 0, 1) := by decide +kernel
theorem dX9_init_223 : decode cX9_init 223 = .ok (.bipush 60, 2) := by decide +kernel
theorem dX9_init_225 : decode cX9_init 225 = .ok (.newarray .boolean, 2) := by decide +kernel
theorem dX9_init_227 : decode cX9_init 227 = .ok (.putfield 92, 3) := by decide +kernel
theorem dX9_init_230 : decode cX9_init 230 = .ok (.aload_n 0, 1) := by decide +kernel
theorem dX9_init_231 : decode cX9_init 231 = .ok (.sipush 1440, 3) := by decide +kernel
theorem dX9_init_234 : decode cX9_init 234 = .ok (.newarray .int, 2) := by decide +kernel
theorem dX9_init_236 : decode cX9_init 236 = .ok (.putfield 95, 3) := by decide +kernel
theorem dX9_init_239 : decode cX9_init 239 = .ok (.aload_n 0, 1) := by decide +kernel
theorem dX9_init_240 : decode cX9_init 240 = .ok (.sipush 1440, 3) := by decide +kernel
theorem dX9_init_243 : decode cX9_init 243 = .ok (.newarray .int, 2) := by decide +kernel
theorem dX9_init_245 : decode cX9_init 245 = .ok (.putfield 98, 3) := by decide +kernel
theorem dX9_init_248 : decode cX9_init 248 = .ok (.aload_n 0, 1) := by decide +kernel
theorem dX9_init_249 : decode cX9_init 249 = .ok (.sipush 480, 3) := by decide +kernel
theorem dX9_init_252 : decode cX9_init 252 = .ok (.newarray .int, 2) := by decide +kernel
theorem dX9_init_254 : decode cX9_init 254 = .ok (.putfield 101, 3) := by decide +kernel
theorem dX9_init_257 : decode cX9_init 257 = .ok (.aload_n 0, 1) := by decide +kernel
theorem dX9_init_258 : decode cX9_init 258 = .ok (.bipush 60, 2) := by decide +kernel
theorem dX9_init_260 : decode cX9_init 260 = .ok (.newarray .int, 2) := by decide +kernel
theorem dX9_init_262 : decode cX9_init 262 = .ok (.putfield 104, 3) := by decide +kernel
theorem dX9_init_265 : decode cX9_init 265 = .ok (.aload_n 0, 1) := by decide +kernel
theorem dX9_init_266 : decode cX9_init 266 = .ok (.bipush 60, 2) := by decide +kernel
theorem dX9_init_268 : decode cX9_init 268 = .ok (.newarray .int, 2) := by decide +kernel
theorem dX9_init_270 : decode cX9_init 270 = .ok (.putfield 107, 3) := by decide +kernel
theorem dX9_init_273 : decode cX9_init 273 = .ok (.aload_n 0, 1) := by decide +kernel
theorem dX9_init_274 : decode cX9_init 274 = .ok (.bipush 60, 2) := by decide +kernel
theorem dX9_init_276 : decode cX9_init 276 = .ok (.newarray .int, 2) := by decide +kernel
theorem dX9_init_278 : decode cX9_init 278 = .ok (.putfield 110, 3) := by decide +kernel
theorem dX9_init_281 : decode cX9_init 281 = .ok (.aload_n 0, 1) := by decide +kernel
theorem dX9_init_282 : decode cX9_init 282 = .ok (.bipush 60, 2) := by decide +kernel
theorem dX9_init_284 : decode cX9_init 284 = .ok (.newarray .boolean, 2) := by decide +kernel
theorem dX9_init_286 : decode cX9_init 286 = .ok (.putfield 113, 3) := by decide +kernel
theorem dX9_init_289 : decode cX9_init 289 = .ok (.aload_n 0, 1) := by decide +kernel
theorem dX9_init_290 : decode cX9_init 290 = .ok (.bipush 8, 2) := by decide +kernel
theorem dX9_init_292 : decode cX9_init 292 = .ok (.newarray .int, 2) := by decide +kernel
theorem dX9_init_294 : decode cX9_init 294 = .ok (.putfield 116, 3) := by decide +kernel
theorem dX9_init_297 : decode cX9_init 297 = .ok (.aload_n 0, 1) := by decide +kernel
theorem dX9_init_298 : decode cX9_init 298 = .ok (.bipush 8, 2) := by decide +kernel
theorem dX9_init_300 : decode cX9_init 300 = .ok (.newarray .int, 2) := by decide +kernel
theorem dX9_init_302 : decode cX9_init 302 = .ok (.putfield 119, 3) := by decide +kernel
theorem dX9_init_305 : decode cX9_init 305 = .ok (.aload_n 0, 1) := by decide +kernel
theorem dX9_init_306 : decode cX9_init 306 = .ok (.getfield 50, 3) := by decide +kernel
theorem dX9_init_309 : decode cX9_init 309 = .ok (.iconst 0, 1) := by decide +kernel
theorem dX9_init_310 : decode cX9_init 310 = .ok (.bipush 15, 2) := by decide +kernel
theorem dX9_init_312 : decode cX9_init 312 = .ok (.iastore, 1) := by decide +kernel
theorem dX9_init_313 : decode cX9_init 313 = .ok (.aload_n 0, 1) := by decide +kernel
theorem dX9_init_314 : decode cX9_init 314 = .ok (.getfield 53, 3) := by decide +kernel
theorem dX9_init_317 : decode cX9_init 317 = .ok (.iconst 0, 1) := by decide +kernel
theorem dX9_init_318 : decode cX9_init 318 = .ok (.bipush 10, 2) := by decide +kernel
theorem dX9_init_320 : decode cX9_init 320 = .ok (.iastore, 1) := by decide +kernel
theorem dX9_init_321 : decode cX9_init 321 = .ok (.return_, 1) := by decide +kernel
theorem dX9_thrown_0 : decode cX9_thrown 0 = .ok (.aload_n 0, 1) := by decide +kernel
theorem dX9_thrown_1 : decode cX9_thrown 1 = .ok (.getfield 122, 3) := by decide +kernel
theorem dX9_thrown_4 : decode cX9_thrown 4 = .ok (.ireturn, 1) := by decide +kernel
theorem dX9_fails_0 : decode cX9_fails 0 = .ok (.aload_n 0, 1) := by decide +kernel
theorem dX9_fails_1 : decode cX9_fails 1 = .ok (.iload_n 1, 1) := by decide +kernel
theorem dX9_fails_2 : decode cX9_fails 2 = .ok (.putfield 122, 3) := by decide +kernel
theorem dX9_fails_5 : decode cX9_fails 5 = .ok (.iconst 0, 1) := by decide +kernel
theorem dX9_fails_6 : decode cX9_fails 6 = .ok (.ireturn, 1) := by decide +kernel
theorem dX9_asks_0 : decode cX9_asks 0 = .ok (.aload_n 0, 1) := by decide +kernel
theorem dX9_asks_1 : decode cX9_asks 1 = .ok (.iload_n 1, 1) := by decide +kernel
theorem dX9_asks_2 : decode cX9_asks 2 = .ok (.ifCond .eq 7, 3) := by decide +kernel
theorem dX9_asks_5 : decode cX9_asks 5 = .ok (.iconst 0, 1) := by decide +kernel
theorem dX9_asks_6 : decode cX9_asks 6 = .ok (.goto 4, 3) := by decide +kernel
theorem dX9_asks_9 : decode cX9_asks 9 = .ok (.iconst 1, 1) := by decide +kernel
theorem dX9_asks_10 : decode cX9_asks 10 = .ok (.putfield 122, 3) := by decide +kernel
theorem dX9_asks_13 : decode cX9_asks 13 = .ok (.iload_n 1, 1) := by decide +kernel
theorem dX9_asks_14 : decode cX9_asks 14 = .ok (.ireturn, 1) := by decide +kernel
theorem dX9_in_0 : decode cX9_in 0 = .ok (.iload_n 0, 1) := by decide +kernel
theorem dX9_in_1 : decode cX9_in 1 = .ok (.iload_n 1, 1) := by decide +kernel
theorem dX9_in_2 : decode cX9_in 2 = .ok (.if_icmp .lt 12, 3) := by decide +kernel
theorem dX9_in_5 : decode cX9_in 5 = .ok (.iload_n 0, 1) := by decide +kernel
theorem dX9_in_6 : decode cX9_in 6 = .ok (.iload_n 2, 1) := by decide +kernel
theorem dX9_in_7 : decode cX9_in 7 = .ok (.if_icmp .gt 7, 3) := by decide +kernel
theorem dX9_in_10 : decode cX9_in 10 = .ok (.iconst 1, 1) := by decide +kernel
theorem dX9_in_11 : decode cX9_in 11 = .ok (.goto 4, 3) := by decide +kernel
theorem dX9_in_14 : decode cX9_in 14 = .ok (.iconst 0, 1) := by decide +kernel
theorem dX9_in_15 : decode cX9_in 15 = .ok (.ireturn, 1) := by decide +kernel
theorem dX9_isIdea_0 : decode cX9_isIdea 0 = .ok (.iload_n 1, 1) := by decide +kernel
theorem dX9_isIdea_1 : decode cX9_isIdea 1 = .ok (.iconst 0, 1) := by decide +kernel
theorem dX9_isIdea_2 : decode cX9_isIdea 2 = .ok (.aload_n 0, 1) := by decide +kernel
theorem dX9_isIdea_3 : decode cX9_isIdea 3 = .ok (.getfield 126, 3) := by decide +kernel
theorem dX9_isIdea_6 : decode cX9_isIdea 6 = .ok (.iconst 1, 1) := by decide +kernel
theorem dX9_isIdea_7 : decode cX9_isIdea 7 = .ok (.isub, 1) := by decide +kernel
theorem dX9_isIdea_8 : decode cX9_isIdea 8 = .ok (.invokestatic 129, 3) := by decide +kernel
theorem dX9_isIdea_11 : decode cX9_isIdea 11 = .ok (.ireturn, 1) := by decide +kernel
theorem dX9_isOffice_0 : decode cX9_isOffice 0 = .ok (.iload_n 1, 1) := by decide +kernel
theorem dX9_isOffice_1 : decode cX9_isOffice 1 = .ok (.iconst 0, 1) := by decide +kernel
theorem dX9_isOffice_2 : decode cX9_isOffice 2 = .ok (.aload_n 0, 1) := by decide +kernel
theorem dX9_isOffice_3 : decode cX9_isOffice 3 = .ok (.getfield 133, 3) := by decide +kernel
theorem dX9_isOffice_6 : decode cX9_isOffice 6 = .ok (.iconst 1, 1) := by decide +kernel
theorem dX9_isOffice_7 : decode cX9_isOffice 7 = .ok (.isub, 1) := by decide +kernel
theorem dX9_isOffice_8 : decode cX9_isOffice 8 = .ok (.invokestatic 129, 3) := by decide +kernel
theorem dX9_isOffice_11 : decode cX9_isOffice 11 = .ok (.ireturn, 1) := by decide +kernel
theorem dX9_isCable_0 : decode cX9_isCable 0 = .ok (.iload_n 1, 1) := by decide +kernel
theorem dX9_isCable_1 : decode cX9_isCable 1 = .ok (.iconst 0, 1) := by decide +kernel
theorem dX9_isCable_2 : decode cX9_isCable 2 = .ok (.aload_n 0, 1) := by decide +kernel
theorem dX9_isCable_3 : decode cX9_isCable 3 = .ok (.getfield 136, 3) := by decide +kernel
theorem dX9_isCable_6 : decode cX9_isCable 6 = .ok (.iconst 1, 1) := by decide +kernel
theorem dX9_isCable_7 : decode cX9_isCable 7 = .ok (.isub, 1) := by decide +kernel
theorem dX9_isCable_8 : decode cX9_isCable 8 = .ok (.invokestatic 129, 3) := by decide +kernel
theorem dX9_isCable_11 : decode cX9_isCable 11 = .ok (.ireturn, 1) := by decide +kernel
theorem dX9_isMessage_0 : decode cX9_isMessage 0 = .ok (.iload_n 1, 1) := by decide +kernel
theorem dX9_isMessage_1 : decode cX9_isMessage 1 = .ok (.iconst 0, 1) := by decide +kernel
theorem dX9_isMessage_2 : decode cX9_isMessage 2 = .ok (.aload_n 0, 1) := by decide +kernel
theorem dX9_isMessage_3 : decode cX9_isMessage 3 = .ok (.getfield 139, 3) := by decide +kernel
theorem dX9_isMessage_6 : decode cX9_isMessage 6 = .ok (.iconst 1, 1) := by decide +kernel
theorem dX9_isMessage_7 : decode cX9_isMessage 7 = .ok (.isub, 1) := by decide +kernel
theorem dX9_isMessage_8 : decode cX9_isMessage 8 = .ok (.invokestatic 129, 3) := by decide +kernel
theorem dX9_isMessage_11 : decode cX9_isMessage 11 = .ok (.ireturn, 1) := by decide +kernel
theorem dX9_isWord_0 : decode cX9_isWord 0 = .ok (.iload_n 0, 1) := by decide +kernel
theorem dX9_isWord_1 : decode cX9_isWord 1 = .ok (.iconst 0, 1) := by decide +kernel
theorem dX9_isWord_2 : decode cX9_isWord 2 = .ok (.ldc 142, 2) := by decide +kernel
theorem dX9_isWord_4 : decode cX9_isWord 4 = .ok (.invokestatic 129, 3) := by decide +kernel
theorem dX9_isWord_7 : decode cX9_isWord 7 = .ok (.ireturn, 1) := by decide +kernel
theorem dX9_letter_0 : decode cX9_letter 0 = .ok (.iload_n 0, 1) := by decide +kernel
theorem dX9_letter_1 : decode cX9_letter 1 = .ok (.istore_n 2, 1) := by decide +kernel
theorem dX9_letter_2 : decode cX9_letter 2 = .ok (.iload_n 1, 1) := by decide +kernel
theorem dX9_letter_3 : decode cX9_letter 3 = .ok (.istore_n 3, 1) := by decide +kernel
theorem dX9_letter_4 : decode cX9_letter 4 = .ok (.iload_n 3, 1) := by decide +kernel
theorem dX9_letter_5 : decode cX9_letter 5 = .ok (.iconst 4, 1) := by decide +kernel
theorem dX9_letter_6 : decode cX9_letter 6 = .ok (.if_icmp .ge 14, 3) := by decide +kernel
theorem dX9_letter_9 : decode cX9_letter 9 = .ok (.iload_n 2, 1) := by decide +kernel
theorem dX9_letter_10 : decode cX9_letter 10 = .ok (.bipush 26, 2) := by decide +kernel
theorem dX9_letter_12 : decode cX9_letter 12 = .ok (.idiv, 1) := by decide +kernel
theorem dX9_letter_13 : decode cX9_letter 13 = .ok (.istore_n 2, 1) := by decide +kernel
theorem dX9_letter_14 : decode cX9_letter 14 = .ok (.iinc 3 1, 3) := by decide +kernel
theorem dX9_letter_17 : decode cX9_letter 17 = .ok (.goto (-13), 3) := by decide +kernel
theorem dX9_letter_20 : decode cX9_letter 20 = .ok (.iload_n 2, 1) := by decide +kernel
theorem dX9_letter_21 : decode cX9_letter 21 = .ok (.bipush 26, 2) := by decide +kernel
theorem dX9_letter_23 : decode cX9_letter 23 = .ok (.irem, 1) := by decide +kernel
theorem dX9_letter_24 : decode cX9_letter 24 = .ok (.ireturn, 1) := by decide +kernel
theorem dX9_parts_0 : decode cX9_parts 0 = .ok (.iconst 0, 1) := by decide +kernel
theorem dX9_parts_1 : decode cX9_parts 1 = .ok (.istore_n 2, 1) := by decide +kernel
theorem dX9_parts_2 : decode cX9_parts 2 = .ok (.iconst 0, 1) := by decide +kernel
theorem dX9_parts_3 : decode cX9_parts 3 = .ok (.istore_n 3, 1) := by decide +kernel
theorem dX9_parts_4 : decode cX9_parts 4 = .ok (.iload_n 3, 1) := by decide +kernel
theorem dX9_parts_5 : decode cX9_parts 5 = .ok (.iconst 5, 1) := by decide +kernel
theorem dX9_parts_6 : decode cX9_parts 6 = .ok (.if_icmp .ge 30, 3) := by decide +kernel
theorem dX9_parts_9 : decode cX9_parts 9 = .ok (.iload_n 2, 1) := by decide +kernel
theorem dX9_parts_10 : decode cX9_parts 10 = .ok (.iload_n 0, 1) := by decide +kernel
theorem dX9_parts_11 : decode cX9_parts 11 = .ok (.iload_n 3, 1) := by decide +kernel
theorem dX9_parts_12 : decode cX9_parts 12 = .ok (.invokestatic 143, 3) := by decide +kernel
theorem dX9_parts_15 : decode cX9_parts 15 = .ok (.iload_n 1, 1) := by decide +kernel
theorem dX9_parts_16 : decode cX9_parts 16 = .ok (.iload_n 3, 1) := by decide +kernel
theorem dX9_parts_17 : decode cX9_parts 17 = .ok (.invokestatic 143, 3) := by decide +kernel
theorem dX9_parts_20 : decode cX9_parts 20 = .ok (.if_icmp .ne 7, 3) := by decide +kernel
theorem dX9_parts_23 : decode cX9_parts 23 = .ok (.iconst 0, 1) := by decide +kernel
theorem dX9_parts_24 : decode cX9_parts 24 = .ok (.goto 4, 3) := by decide +kernel
theorem dX9_parts_27 : decode cX9_parts 27 = .ok (.iconst 1, 1) := by decide +kernel
theorem dX9_parts_28 : decode cX9_parts 28 = .ok (.iadd, 1) := by decide +kernel
theorem dX9_parts_29 : decode cX9_parts 29 = .ok (.istore_n 2, 1) := by decide +kernel
theorem dX9_parts_30 : decode cX9_parts 30 = .ok (.iinc 3 1, 3) := by decide +kernel
theorem dX9_parts_33 : decode cX9_parts 33 = .ok (.goto (-29), 3) := by decide +kernel
theorem dX9_parts_36 : decode cX9_parts 36 = .ok (.iload_n 2, 1) := by decide +kernel
theorem dX9_parts_37 : decode cX9_parts 37 = .ok (.ireturn, 1) := by decide +kernel
theorem dX9_isTurned_0 : decode cX9_isTurned 0 = .ok (.iconst 0, 1) := by decide +kernel
theorem dX9_isTurned_1 : decode cX9_isTurned 1 = .ok (.istore_n 2, 1) := by decide +kernel
theorem dX9_isTurned_2 : decode cX9_isTurned 2 = .ok (.iconst 0, 1) := by decide +kernel
theorem dX9_isTurned_3 : decode cX9_isTurned 3 = .ok (.istore_n 3, 1) := by decide +kernel
theorem dX9_isTurned_4 : decode cX9_isTurned 4 = .ok (.iload_n 3, 1) := by decide +kernel
theorem dX9_isTurned_5 : decode cX9_isTurned 5 = .ok (.iconst 4, 1) := by decide +kernel
theorem dX9_isTurned_6 : decode cX9_isTurned 6 = .ok (.if_icmp .ge 83, 3) := by decide +kernel
theorem dX9_isTurned_9 : decode cX9_isTurned 9 = .ok (.iload_n 0, 1) := by decide +kernel
theorem dX9_isTurned_10 : decode cX9_isTurned 10 = .ok (.iload_n 3, 1) := by decide +kernel
theorem dX9_isTurned_11 : decode cX9_isTurned 11 = .ok (.invokestatic 143, 3) := by decide +kernel
theorem dX9_isTurned_14 : decode cX9_isTurned 14 = .ok (.iload_n 1, 1) := by decide +kernel
theorem dX9_isTurned_15 : decode cX9_isTurned 15 = .ok (.iload_n 3, 1) := by decide +kernel
theorem dX9_isTurned_16 : decode cX9_isTurned 16 = .ok (.iconst 1, 1) := by decide +kernel
theorem dX9_isTurned_17 : decode cX9_isTurned 17 = .ok (.iadd, 1) := by decide +kernel
theorem dX9_isTurned_18 : decode cX9_isTurned 18 = .ok (.invokestatic 143, 3) := by decide +kernel
theorem dX9_isTurned_21 : decode cX9_isTurned 21 = .ok (.if_icmp .ne 22, 3) := by decide +kernel
theorem dX9_isTurned_24 : decode cX9_isTurned 24 = .ok (.iload_n 0, 1) := by decide +kernel
theorem dX9_isTurned_25 : decode cX9_isTurned 25 = .ok (.iload_n 3, 1) := by decide +kernel
theorem dX9_isTurned_26 : decode cX9_isTurned 26 = .ok (.iconst 1, 1) := by decide +kernel
theorem dX9_isTurned_27 : decode cX9_isTurned 27 = .ok (.iadd, 1) := by decide +kernel
theorem dX9_isTurned_28 : decode cX9_isTurned 28 = .ok (.invokestatic 143, 3) := by decide +kernel
theorem dX9_isTurned_31 : decode cX9_isTurned 31 = .ok (.iload_n 1, 1) := by decide +kernel
theorem dX9_isTurned_32 : decode cX9_isTurned 32 = .ok (.iload_n 3, 1) := by decide +kernel
theorem dX9_isTurned_33 : decode cX9_isTurned 33 = .ok (.invokestatic 143, 3) := by decide +kernel
theorem dX9_isTurned_36 : decode cX9_isTurned 36 = .ok (.if_icmp .ne 7, 3) := by decide +kernel
theorem dX9_isTurned_39 : decode cX9_isTurned 39 = .ok (.iconst 1, 1) := by decide +kernel
theorem dX9_isTurned_40 : decode cX9_isTurned 40 = .ok (.goto 4, 3) := by decide +kernel
theorem dX9_isTurned_43 : decode cX9_isTurned 43 = .ok (.iconst 0, 1) := by decide +kernel
theorem dX9_isTurned_44 : decode cX9_isTurned 44 = .ok (.istore 4, 2) := by decide +kernel
theorem dX9_isTurned_46 : decode cX9_isTurned 46 = .ok (.iload_n 2, 1) := by decide +kernel
theorem dX9_isTurned_47 : decode cX9_isTurned 47 = .ok (.ifCond .ne 30, 3) := by decide +kernel
theorem dX9_isTurned_50 : decode cX9_isTurned 50 = .ok (.iload 4, 2) := by decide +kernel
theorem dX9_isTurned_52 : decode cX9_isTurned 52 = .ok (.ifCond .eq 29, 3) := by decide +kernel
theorem dX9_isTurned_55 : decode cX9_isTurned 55 = .ok (.iload_n 0, 1) := by decide +kernel
theorem dX9_isTurned_56 : decode cX9_isTurned 56 = .ok (.iload_n 1, 1) := by decide +kernel
theorem dX9_isTurned_57 : decode cX9_isTurned 57 = .ok (.invokestatic 147, 3) := by decide +kernel
theorem dX9_isTurned_60 : decode cX9_isTurned 60 = .ok (.iconst 2, 1) := by decide +kernel
theorem dX9_isTurned_61 : decode cX9_isTurned 61 = .ok (.if_icmp .ne 20, 3) := by decide +kernel
theorem dX9_isTurned_64 : decode cX9_isTurned 64 = .ok (.iload_n 0, 1) := by decide +kernel
theorem dX9_isTurned_65 : decode cX9_isTurned 65 = .ok (.iload_n 3, 1) := by decide +kernel
theorem dX9_isTurned_66 : decode cX9_isTurned 66 = .ok (.invokestatic 143, 3) := by decide +kernel
theorem dX9_isTurned_69 : decode cX9_isTurned 69 = .ok (.iload_n 1, 1) := by decide +kernel
theorem dX9_isTurned_70 : decode cX9_isTurned 70 = .ok (.iload_n 3, 1) := by decide +kernel
theorem dX9_isTurned_71 : decode cX9_isTurned 71 = .ok (.invokestatic 143, 3) := by decide +kernel
theorem dX9_isTurned_74 : decode cX9_isTurned 74 = .ok (.if_icmp .eq 7, 3) := by decide +kernel
theorem dX9_isTurned_77 : decode cX9_isTurned 77 = .ok (.iconst 1, 1) := by decide +kernel
theorem dX9_isTurned_78 : decode cX9_isTurned 78 = .ok (.goto 4, 3) := by decide +kernel
theorem dX9_isTurned_81 : decode cX9_isTurned 81 = .ok (.iconst 0, 1) := by decide +kernel
theorem dX9_isTurned_82 : decode cX9_isTurned 82 = .ok (.istore_n 2, 1) := by decide +kernel
theorem dX9_isTurned_83 : decode cX9_isTurned 83 = .ok (.iinc 3 1, 3) := by decide +kernel
theorem dX9_isTurned_86 : decode cX9_isTurned 86 = .ok (.goto (-82), 3) := by decide +kernel
theorem dX9_isTurned_89 : decode cX9_isTurned 89 = .ok (.iload_n 2, 1) := by decide +kernel
theorem dX9_isTurned_90 : decode cX9_isTurned 90 = .ok (.ireturn, 1) := by decide +kernel
theorem dX9_vowelsOf_0 : decode cX9_vowelsOf 0 = .ok (.iconst 0, 1) := by decide +kernel
theorem dX9_vowelsOf_1 : decode cX9_vowelsOf 1 = .ok (.istore_n 1, 1) := by decide +kernel
theorem dX9_vowelsOf_2 : decode cX9_vowelsOf 2 = .ok (.iconst 0, 1) := by decide +kernel
theorem dX9_vowelsOf_3 : decode cX9_vowelsOf 3 = .ok (.istore_n 2, 1) := by decide +kernel
theorem dX9_vowelsOf_4 : decode cX9_vowelsOf 4 = .ok (.iload_n 2, 1) := by decide +kernel
theorem dX9_vowelsOf_5 : decode cX9_vowelsOf 5 = .ok (.iconst 5, 1) := by decide +kernel
theorem dX9_vowelsOf_6 : decode cX9_vowelsOf 6 = .ok (.if_icmp .ge 56, 3) := by decide +kernel
theorem dX9_vowelsOf_9 : decode cX9_vowelsOf 9 = .ok (.iload_n 0, 1) := by decide +kernel
theorem dX9_vowelsOf_10 : decode cX9_vowelsOf 10 = .ok (.iload_n 2, 1) := by decide +kernel
theorem dX9_vowelsOf_11 : decode cX9_vowelsOf 11 = .ok (.invokestatic 143, 3) := by decide +kernel
theorem dX9_vowelsOf_14 : decode cX9_vowelsOf 14 = .ok (.bipush 97, 2) := by decide +kernel
theorem dX9_vowelsOf_16 : decode cX9_vowelsOf 16 = .ok (.iadd, 1) := by decide +kernel
theorem dX9_vowelsOf_17 : decode cX9_vowelsOf 17 = .ok (.istore_n 3, 1) := by decide +kernel
theorem dX9_vowelsOf_18 : decode cX9_vowelsOf 18 = .ok (.iload_n 1, 1) := by decide +kernel
theorem dX9_vowelsOf_19 : decode cX9_vowelsOf 19 = .ok (.iload_n 3, 1) := by decide +kernel
theorem dX9_vowelsOf_20 : decode cX9_vowelsOf 20 = .ok (.bipush 97, 2) := by decide +kernel
theorem dX9_vowelsOf_22 : decode cX9_vowelsOf 22 = .ok (.if_icmp .eq 27, 3) := by decide +kernel
theorem dX9_vowelsOf_25 : decode cX9_vowelsOf 25 = .ok (.iload_n 3, 1) := by decide +kernel
theorem dX9_vowelsOf_26 : decode cX9_vowelsOf 26 = .ok (.bipush 101, 2) := by decide +kernel
theorem dX9_vowelsOf_28 : decode cX9_vowelsOf 28 = .ok (.if_icmp .eq 21, 3) := by decide +kernel
theorem dX9_vowelsOf_31 : decode cX9_vowelsOf 31 = .ok (.iload_n 3, 1) := by decide +kernel
theorem dX9_vowelsOf_32 : decode cX9_vowelsOf 32 = .ok (.bipush 105, 2) := by decide +kernel
theorem dX9_vowelsOf_34 : decode cX9_vowelsOf 34 = .ok (.if_icmp .eq 15, 3) := by decide +kernel
theorem dX9_vowelsOf_37 : decode cX9_vowelsOf 37 = .ok (.iload_n 3, 1) := by decide +kernel
theorem dX9_vowelsOf_38 : decode cX9_vowelsOf 38 = .ok (.bipush 111, 2) := by decide +kernel
theorem dX9_vowelsOf_40 : decode cX9_vowelsOf 40 = .ok (.if_icmp .eq 9, 3) := by decide +kernel
theorem dX9_vowelsOf_43 : decode cX9_vowelsOf 43 = .ok (.iload_n 3, 1) := by decide +kernel
theorem dX9_vowelsOf_44 : decode cX9_vowelsOf 44 = .ok (.bipush 117, 2) := by decide +kernel
theorem dX9_vowelsOf_46 : decode cX9_vowelsOf 46 = .ok (.if_icmp .ne 7, 3) := by decide +kernel
theorem dX9_vowelsOf_49 : decode cX9_vowelsOf 49 = .ok (.iconst 1, 1) := by decide +kernel
theorem dX9_vowelsOf_50 : decode cX9_vowelsOf 50 = .ok (.goto 4, 3) := by decide +kernel
theorem dX9_vowelsOf_53 : decode cX9_vowelsOf 53 = .ok (.iconst 0, 1) := by decide +kernel
theorem dX9_vowelsOf_54 : decode cX9_vowelsOf 54 = .ok (.iadd, 1) := by decide +kernel
theorem dX9_vowelsOf_55 : decode cX9_vowelsOf 55 = .ok (.istore_n 1, 1) := by decide +kernel
theorem dX9_vowelsOf_56 : decode cX9_vowelsOf 56 = .ok (.iinc 2 1, 3) := by decide +kernel
theorem dX9_vowelsOf_59 : decode cX9_vowelsOf 59 = .ok (.goto (-55), 3) := by decide +kernel
theorem dX9_vowelsOf_62 : decode cX9_vowelsOf 62 = .ok (.iload_n 1, 1) := by decide +kernel
theorem dX9_vowelsOf_63 : decode cX9_vowelsOf 63 = .ok (.ireturn, 1) := by decide +kernel
theorem dX9_idea_0 : decode cX9_idea 0 = .ok (.aload_n 0, 1) := by decide +kernel
theorem dX9_idea_1 : decode cX9_idea 1 = .ok (.iload_n 1, 1) := by decide +kernel
theorem dX9_idea_2 : decode cX9_idea 2 = .ok (.iconst 1, 1) := by decide +kernel
theorem dX9_idea_3 : decode cX9_idea 3 = .ok (.bipush 20, 2) := by decide +kernel
theorem dX9_idea_5 : decode cX9_idea 5 = .ok (.invokestatic 129, 3) := by decide +kernel
theorem dX9_idea_8 : decode cX9_idea 8 = .ok (.invokevirtual 150, 3) := by decide +kernel
theorem dX9_idea_11 : decode cX9_idea 11 = .ok (.ifCond .ne 5, 3) := by decide +kernel
theorem dX9_idea_14 : decode cX9_idea 14 = .ok (.iconst 0, 1) := by decide +kernel
theorem dX9_idea_15 : decode cX9_idea 15 = .ok (.ireturn, 1) := by decide +kernel
theorem dX9_idea_16 : decode cX9_idea 16 = .ok (.aload_n 0, 1) := by decide +kernel
theorem dX9_idea_17 : decode cX9_idea 17 = .ok (.getfield 126, 3) := by decide +kernel
theorem dX9_idea_20 : decode cX9_idea 20 = .ok (.bipush 30, 2) := by decide +kernel
theorem dX9_idea_22 : decode cX9_idea 22 = .ok (.if_icmp .ne 9, 3) := by decide +kernel
theorem dX9_idea_25 : decode cX9_idea 25 = .ok (.aload_n 0, 1) := by decide +kernel
theorem dX9_idea_26 : decode cX9_idea 26 = .ok (.iconst 2, 1) := by decide +kernel
theorem dX9_idea_27 : decode cX9_idea 27 = .ok (.invokevirtual 154, 3) := by decide +kernel
theorem dX9_idea_30 : decode cX9_idea 30 = .ok (.ireturn, 1) := by decide +kernel
theorem dX9_idea_31 : decode cX9_idea 31 = .ok (.aload_n 0, 1) := by decide +kernel
theorem dX9_idea_32 : decode cX9_idea 32 = .ok (.getfield 7, 3) := by decide +kernel
theorem dX9_idea_35 : decode cX9_idea 35 = .ok (.aload_n 0, 1) := by decide +kernel
theorem dX9_idea_36 : decode cX9_idea 36 = .ok (.getfield 126, 3) := by decide +kernel
theorem dX9_idea_39 : decode cX9_idea 39 = .ok (.iload_n 1, 1) := by decide +kernel
theorem dX9_idea_40 : decode cX9_idea 40 = .ok (.iastore, 1) := by decide +kernel
theorem dX9_idea_41 : decode cX9_idea 41 = .ok (.aload_n 0, 1) := by decide +kernel
theorem dX9_idea_42 : decode cX9_idea 42 = .ok (.dup, 1) := by decide +kernel
theorem dX9_idea_43 : decode cX9_idea 43 = .ok (.getfield 126, 3) := by decide +kernel
theorem dX9_idea_46 : decode cX9_idea 46 = .ok (.iconst 1, 1) := by decide +kernel
theorem dX9_idea_47 : decode cX9_idea 47 = .ok (.iadd, 1) := by decide +kernel
theorem dX9_idea_48 : decode cX9_idea 48 = .ok (.putfield 126, 3) := by decide +kernel
theorem dX9_idea_51 : decode cX9_idea 51 = .ok (.aload_n 0, 1) := by decide +kernel
theorem dX9_idea_52 : decode cX9_idea 52 = .ok (.getfield 126, 3) := by decide +kernel
theorem dX9_idea_55 : decode cX9_idea 55 = .ok (.iconst 1, 1) := by decide +kernel
theorem dX9_idea_56 : decode cX9_idea 56 = .ok (.isub, 1) := by decide +kernel
theorem dX9_idea_57 : decode cX9_idea 57 = .ok (.ireturn, 1) := by decide +kernel
theorem dX9_isIdeaOrNone_0 : decode cX9_isIdeaOrNone 0 = .ok (.iload_n 1, 1) := by decide +kernel
theorem dX9_isIdeaOrNone_1 : decode cX9_isIdeaOrNone 1 = .ok (.iconst (-1), 1) := by decide +kernel
theorem dX9_isIdeaOrNone_2 : decode cX9_isIdeaOrNone 2 = .ok (.if_icmp .eq 11, 3) := by decide +kernel
theorem dX9_isIdeaOrNone_5 : decode cX9_isIdeaOrNone 5 = .ok (.aload_n 0, 1) := by decide +kernel
theorem dX9_isIdeaOrNone_6 : decode cX9_isIdeaOrNone 6 = .ok (.iload_n 1, 1) := by decide +kernel
theorem dX9_isIdeaOrNone_7 : decode cX9_isIdeaOrNone 7 = .ok (.invokevirtual 158, 3) := by decide +kernel
theorem dX9_isIdeaOrNone_10 : decode cX9_isIdeaOrNone 10 = .ok (.ifCond .eq 7, 3) := by decide +kernel
theorem dX9_isIdeaOrNone_13 : decode cX9_isIdeaOrNone 13 = .ok (.iconst 1, 1) := by decide +kernel
theorem dX9_isIdeaOrNone_14 : decode cX9_isIdeaOrNone 14 = .ok (.goto 4, 3) := by decide +kernel
theorem dX9_isIdeaOrNone_17 : decode cX9_isIdeaOrNone 17 = .ok (.iconst 0, 1) := by decide +kernel
theorem dX9_isIdeaOrNone_18 : decode cX9_isIdeaOrNone 18 = .ok (.ireturn, 1) := by decide +kernel
theorem dX9_entry_0 : decode cX9_entry 0 = .ok (.aload_n 0, 1) := by decide +kernel
theorem dX9_entry_1 : decode cX9_entry 1 = .ok (.aload_n 0, 1) := by decide +kernel
theorem dX9_entry_2 : decode cX9_entry 2 = .ok (.iload_n 2, 1) := by decide +kernel
theorem dX9_entry_3 : decode cX9_entry 3 = .ok (.invokevirtual 158, 3) := by decide +kernel
theorem dX9_entry_6 : decode cX9_entry 6 = .ok (.ifCond .eq 33, 3) := by decide +kernel
theorem dX9_entry_9 : decode cX9_entry 9 = .ok (.aload_n 0, 1) := by decide +kernel
theorem dX9_entry_10 : decode cX9_entry 10 = .ok (.iload_n 3, 1) := by decide +kernel
theorem dX9_entry_11 : decode cX9_entry 11 = .ok (.invokevirtual 162, 3) := by decide +kernel
theorem dX9_entry_14 : decode cX9_entry 14 = .ok (.ifCond .eq 25, 3) := by decide +kernel
theorem dX9_entry_17 : decode cX9_entry 17 = .ok (.aload_n 0, 1) := by decide +kernel
theorem dX9_entry_18 : decode cX9_entry 18 = .ok (.iload 4, 2) := by decide +kernel
theorem dX9_entry_20 : decode cX9_entry 20 = .ok (.invokevirtual 162, 3) := by decide +kernel
theorem dX9_entry_23 : decode cX9_entry 23 = .ok (.ifCond .eq 16, 3) := by decide +kernel
theorem dX9_entry_26 : decode cX9_entry 26 = .ok (.aload_n 0, 1) := by decide +kernel
theorem dX9_entry_27 : decode cX9_entry 27 = .ok (.iload 5, 2) := by decide +kernel
theorem dX9_entry_29 : decode cX9_entry 29 = .ok (.invokevirtual 162, 3) := by decide +kernel
theorem dX9_entry_32 : decode cX9_entry 32 = .ok (.ifCond .eq 7, 3) := by decide +kernel
theorem dX9_entry_35 : decode cX9_entry 35 = .ok (.iconst 1, 1) := by decide +kernel
theorem dX9_entry_36 : decode cX9_entry 36 = .ok (.goto 4, 3) := by decide +kernel
theorem dX9_entry_39 : decode cX9_entry 39 = .ok (.iconst 0, 1) := by decide +kernel
theorem dX9_entry_40 : decode cX9_entry 40 = .ok (.invokevirtual 150, 3) := by decide +kernel
theorem dX9_entry_43 : decode cX9_entry 43 = .ok (.ifCond .ne 5, 3) := by decide +kernel
theorem dX9_entry_46 : decode cX9_entry 46 = .ok (.iconst 0, 1) := by decide +kernel
theorem dX9_entry_47 : decode cX9_entry 47 = .ok (.ireturn, 1) := by decide +kernel
theorem dX9_entry_48 : decode cX9_entry 48 = .ok (.iload_n 1, 1) := by decide +kernel
theorem dX9_entry_49 : decode cX9_entry 49 = .ok (.invokestatic 165, 3) := by decide +kernel
theorem dX9_entry_52 : decode cX9_entry 52 = .ok (.ifCond .eq 26, 3) := by decide +kernel
theorem dX9_entry_55 : decode cX9_entry 55 = .ok (.iload_n 3, 1) := by decide +kernel
theorem dX9_entry_56 : decode cX9_entry 56 = .ok (.iconst (-1), 1) := by decide +kernel
theorem dX9_entry_57 : decode cX9_entry 57 = .ok (.if_icmp .ne 9, 3) := by decide +kernel
theorem dX9_entry_60 : decode cX9_entry 60 = .ok (.iload 4, 2) := by decide +kernel
theorem dX9_entry_62 : decode cX9_entry 62 = .ok (.iconst (-1), 1) := by decide +kernel
theorem dX9_entry_63 : decode cX9_entry 63 = .ok (.if_icmp .ne 15, 3) := by decide +kernel
theorem dX9_entry_66 : decode cX9_entry 66 = .ok (.iload 4, 2) := by decide +kernel
theorem dX9_entry_68 : decode cX9_entry 68 = .ok (.iconst (-1), 1) := by decide +kernel
theorem dX9_entry_69 : decode cX9_entry 69 = .ok (.if_icmp .ne 15, 3) := by decide +kernel
theorem dX9_entry_72 : decode cX9_entry 72 = .ok (.iload 5, 2) := by decide +kernel
theorem dX9_entry_74 : decode cX9_entry 74 = .ok (.iconst (-1), 1) := by decide +kernel
theorem dX9_entry_75 : decode cX9_entry 75 = .ok (.if_icmp .eq 9, 3) := by decide +kernel
theorem dX9_entry_78 : decode cX9_entry 78 = .ok (.aload_n 0, 1) := by decide +kernel
theorem dX9_entry_79 : decode cX9_entry 79 = .ok (.iconst 2, 1) := by decide +kernel
theorem dX9_entry_80 : decode cX9_entry 80 = .ok (.invokevirtual 154, 3) := by decide +kernel
theorem dX9_entry_83 : decode cX9_entry 83 = .ok (.ireturn, 1) := by decide +kernel
theorem dX9_entry_84 : decode cX9_entry 84 = .ok (.aload_n 0, 1) := by decide +kernel
theorem dX9_entry_85 : decode cX9_entry 85 = .ok (.getfield 168, 3) := by decide +kernel
theorem dX9_entry_88 : decode cX9_entry 88 = .ok (.bipush 40, 2) := by decide +kernel
theorem dX9_entry_90 : decode cX9_entry 90 = .ok (.if_icmp .ge 7, 3) := by decide +kernel
theorem dX9_entry_93 : decode cX9_entry 93 = .ok (.iconst 1, 1) := by decide +kernel
theorem dX9_entry_94 : decode cX9_entry 94 = .ok (.goto 4, 3) := by decide +kernel
theorem dX9_entry_97 : decode cX9_entry 97 = .ok (.iconst 0, 1) := by decide +kernel
theorem dX9_entry_98 : decode cX9_entry 98 = .ok (.istore 6, 2) := by decide +kernel
theorem dX9_entry_100 : decode cX9_entry 100 = .ok (.iconst 0, 1) := by decide +kernel
theorem dX9_entry_101 : decode cX9_entry 101 = .ok (.istore 7, 2) := by decide +kernel
theorem dX9_entry_103 : decode cX9_entry 103 = .ok (.iload 7, 2) := by decide +kernel
theorem dX9_entry_105 : decode cX9_entry 105 = .ok (.aload_n 0, 1) := by decide +kernel
theorem dX9_entry_106 : decode cX9_entry 106 = .ok (.getfield 168, 3) := by decide +kernel
theorem dX9_entry_109 : decode cX9_entry 109 = .ok (.if_icmp .ge 108, 3) := by decide +kernel
theorem dX9_entry_112 : decode cX9_entry 112 = .ok (.aload_n 0, 1) := by decide +kernel
theorem dX9_entry_113 : decode cX9_entry 113 = .ok (.getfield 16, 3) := by decide +kernel
theorem dX9_entry_116 : decode cX9_entry 116 = .ok (.iconst 4, 1) := by decide +kernel
theorem dX9_entry_117 : decode cX9_entry 117 = .ok (.iload 7, 2) := by decide +kernel
theorem dX9_entry_119 : decode cX9_entry 119 = .ok (.imul, 1) := by decide +kernel
theorem dX9_entry_120 : decode cX9_entry 120 = .ok (.iaload, 1) := by decide +kernel
theorem dX9_entry_121 : decode cX9_entry 121 = .ok (.iload_n 2, 1) := by decide +kernel
theorem dX9_entry_122 : decode cX9_entry 122 = .ok (.if_icmp .ne 54, 3) := by decide +kernel
theorem dX9_entry_125 : decode cX9_entry 125 = .ok (.aload_n 0, 1) := by decide +kernel
theorem dX9_entry_126 : decode cX9_entry 126 = .ok (.getfield 16, 3) := by decide +kernel
theorem dX9_entry_129 : decode cX9_entry 129 = .ok (.iconst 4, 1) := by decide +kernel
theorem dX9_entry_130 : decode cX9_entry 130 = .ok (.iload 7, 2) := by decide +kernel
theorem dX9_entry_132 : decode cX9_entry 132 = .ok (.imul, 1) := by decide +kernel
theorem dX9_entry_133 : decode cX9_entry 133 = .ok (.iconst 1, 1) := by decide +kernel
theorem dX9_entry_134 : decode cX9_entry 134 = .ok (.iadd, 1) := by decide +kernel
theorem dX9_entry_135 : decode cX9_entry 135 = .ok (.iaload, 1) := by decide +kernel
theorem dX9_entry_136 : decode cX9_entry 136 = .ok (.iload_n 3, 1) := by decide +kernel
theorem dX9_entry_137 : decode cX9_entry 137 = .ok (.if_icmp .ne 39, 3) := by decide +kernel
theorem dX9_entry_140 : decode cX9_entry 140 = .ok (.aload_n 0, 1) := by decide +kernel
theorem dX9_entry_141 : decode cX9_entry 141 = .ok (.getfield 16, 3) := by decide +kernel
theorem dX9_entry_144 : decode cX9_entry 144 = .ok (.iconst 4, 1) := by decide +kernel
theorem dX9_entry_145 : decode cX9_entry 145 = .ok (.iload 7, 2) := by decide +kernel
theorem dX9_entry_147 : decode cX9_entry 147 = .ok (.imul, 1) := by decide +kernel
theorem dX9_entry_148 : decode cX9_entry 148 = .ok (.iconst 2, 1) := by decide +kernel
theorem dX9_entry_149 : decode cX9_entry 149 = .ok (.iadd, 1) := by decide +kernel
theorem dX9_entry_150 : decode cX9_entry 150 = .ok (.iaload, 1) := by decide +kernel
theorem dX9_entry_151 : decode cX9_entry 151 = .ok (.iload 4, 2) := by decide +kernel
theorem dX9_entry_153 : decode cX9_entry 153 = .ok (.if_icmp .ne 23, 3) := by decide +kernel
theorem dX9_entry_156 : decode cX9_entry 156 = .ok (.aload_n 0, 1) := by decide +kernel
theorem dX9_entry_157 : decode cX9_entry 157 = .ok (.getfield 16, 3) := by decide +kernel
theorem dX9_entry_160 : decode cX9_entry 160 = .ok (.iconst 4, 1) := by decide +kernel
theorem dX9_entry_161 : decode cX9_entry 161 = .ok (.iload 7, 2) := by decide +kernel
theorem dX9_entry_163 : decode cX9_entry 163 = .ok (.imul, 1) := by decide +kernel
theorem dX9_entry_164 : decode cX9_entry 164 = .ok (.iconst 3, 1) := by decide +kernel
theorem dX9_entry_165 : decode cX9_entry 165 = .ok (.iadd, 1) := by decide +kernel
theorem dX9_entry_166 : decode cX9_entry 166 = .ok (.iaload, 1) := by decide +kernel
theorem dX9_entry_167 : decode cX9_entry 167 = .ok (.iload 5, 2) := by decide +kernel
theorem dX9_entry_169 : decode cX9_entry 169 = .ok (.if_icmp .ne 7, 3) := by decide +kernel
theorem dX9_entry_172 : decode cX9_entry 172 = .ok (.iconst 1, 1) := by decide +kernel
theorem dX9_entry_173 : decode cX9_entry 173 = .ok (.goto 4, 3) := by decide +kernel
theorem dX9_entry_176 : decode cX9_entry 176 = .ok (.iconst 0, 1) := by decide +kernel
theorem dX9_entry_177 : decode cX9_entry 177 = .ok (.istore 8, 2) := by decide +kernel
theorem dX9_entry_179 : decode cX9_entry 179 = .ok (.iload 6, 2) := by decide +kernel
theorem dX9_entry_181 : decode cX9_entry 181 = .ok (.ifCond .eq 27, 3) := by decide +kernel
theorem dX9_entry_184 : decode cX9_entry 184 = .ok (.iload 8, 2) := by decide +kernel
theorem dX9_entry_186 : decode cX9_entry 186 = .ok (.ifCond .ne 22, 3) := by decide +kernel
theorem dX9_entry_189 : decode cX9_entry 189 = .ok (.aload_n 0, 1) := by decide +kernel
theorem dX9_entry_190 : decode cX9_entry 190 = .ok (.getfield 13, 3) := by decide +kernel
theorem dX9_entry_193 : decode cX9_entry 193 = .ok (.iload 7, 2) := by decide +kernel
theorem dX9_entry_195 : decode cX9_entry 195 = .ok (.iaload, 1) := by decide +kernel
theorem dX9_entry_196 : decode cX9_entry 196 = .ok (.iload_n 1, 1) := by decide +kernel
theorem dX9_entry_197 : decode cX9_entry 197 = .ok (.invokestatic 147, 3) := by decide +kernel
theorem dX9_entry_200 : decode cX9_entry 200 = .ok (.iconst 1, 1) := by decide +kernel
theorem dX9_entry_201 : decode cX9_entry 201 = .ok (.if_icmp .le 7, 3) := by decide +kernel
theorem dX9_entry_204 : decode cX9_entry 204 = .ok (.iconst 1, 1) := by decide +kernel
theorem dX9_entry_205 : decode cX9_entry 205 = .ok (.goto 4, 3) := by decide +kernel
theorem dX9_entry_208 : decode cX9_entry 208 = .ok (.iconst 0, 1) := by decide +kernel
theorem dX9_entry_209 : decode cX9_entry 209 = .ok (.istore 6, 2) := by decide +kernel
theorem dX9_entry_211 : decode cX9_entry 211 = .ok (.iinc 7 1, 3) := by decide +kernel
theorem dX9_entry_214 : decode cX9_entry 214 = .ok (.goto (-111), 3) := by decide +kernel
theorem dX9_entry_217 : decode cX9_entry 217 = .ok (.iload 6, 2) := by decide +kernel
theorem dX9_entry_219 : decode cX9_entry 219 = .ok (.ifCond .ne 9, 3) := by decide +kernel
theorem dX9_entry_222 : decode cX9_entry 222 = .ok (.aload_n 0, 1) := by decide +kernel
theorem dX9_entry_223 : decode cX9_entry 223 = .ok (.iconst 3, 1) := by decide +kernel
theorem dX9_entry_224 : decode cX9_entry 224 = .ok (.invokevirtual 154, 3) := by decide +kernel
theorem dX9_entry_227 : decode cX9_entry 227 = .ok (.ireturn, 1) := by decide +kernel
theorem dX9_entry_228 : decode cX9_entry 228 = .ok (.aload_n 0, 1) := by decide +kernel
theorem dX9_entry_229 : decode cX9_entry 229 = .ok (.getfield 13, 3) := by decide +kernel
theorem dX9_entry_232 : decode cX9_entry 232 = .ok (.aload_n 0, 1) := by decide +kernel
theorem dX9_entry_233 : decode cX9_entry 233 = .ok (.getfield 168, 3) := by decide +kernel
theorem dX9_entry_236 : decode cX9_entry 236 = .ok (.iload_n 1, 1) := by decide +kernel
theorem dX9_entry_237 : decode cX9_entry 237 = .ok (.iastore, 1) := by decide +kernel
theorem dX9_entry_238 : decode cX9_entry 238 = .ok (.aload_n 0, 1) := by decide +kernel
theorem dX9_entry_239 : decode cX9_entry 239 = .ok (.getfield 16, 3) := by decide +kernel
theorem dX9_entry_242 : decode cX9_entry 242 = .ok (.iconst 4, 1) := by decide +kernel
theorem dX9_entry_243 : decode cX9_entry 243 = .ok (.aload_n 0, 1) := by decide +kernel
theorem dX9_entry_244 : decode cX9_entry 244 = .ok (.getfield 168, 3) := by decide +kernel
theorem dX9_entry_247 : decode cX9_entry 247 = .ok (.imul, 1) := by decide +kernel
theorem dX9_entry_248 : decode cX9_entry 248 = .ok (.iload_n 2, 1) := by decide +kernel
theorem dX9_entry_249 : decode cX9_entry 249 = .ok (.iastore, 1) := by decide +kernel
theorem dX9_entry_250 : decode cX9_entry 250 = .ok (.aload_n 0, 1) := by decide +kernel
theorem dX9_entry_251 : decode cX9_entry 251 = .ok (.getfield 16, 3) := by decide +kernel
theorem dX9_entry_254 : decode cX9_entry 254 = .ok (.iconst 4, 1) := by decide +kernel
theorem dX9_entry_255 : decode cX9_entry 255 = .ok (.aload_n 0, 1) := by decide +kernel
theorem dX9_entry_256 : decode cX9_entry 256 = .ok (.getfield 168, 3) := by decide +kernel
theorem dX9_entry_259 : decode cX9_entry 259 = .ok (.imul, 1) := by decide +kernel
theorem dX9_entry_260 : decode cX9_entry 260 = .ok (.iconst 1, 1) := by decide +kernel
theorem dX9_entry_261 : decode cX9_entry 261 = .ok (.iadd, 1) := by decide +kernel
theorem dX9_entry_262 : decode cX9_entry 262 = .ok (.iload_n 3, 1) := by decide +kernel
theorem dX9_entry_263 : decode cX9_entry 263 = .ok (.iastore, 1) := by decide +kernel
theorem dX9_entry_264 : decode cX9_entry 264 = .ok (.aload_n 0, 1) := by decide +kernel
theorem dX9_entry_265 : decode cX9_entry 265 = .ok (.getfield 16, 3) := by decide +kernel
theorem dX9_entry_268 : decode cX9_entry 268 = .ok (.iconst 4, 1) := by decide +kernel
theorem dX9_entry_269 : decode cX9_entry 269 = .ok (.aload_n 0, 1) := by decide +kernel
theorem dX9_entry_270 : decode cX9_entry 270 = .ok (.getfield 168, 3) := by decide +kernel
theorem dX9_entry_273 : decode cX9_entry 273 = .ok (.imul, 1) := by decide +kernel
theorem dX9_entry_274 : decode cX9_entry 274 = .ok (.iconst 2, 1) := by decide +kernel
theorem dX9_entry_275 : decode cX9_entry 275 = .ok (.iadd, 1) := by decide +kernel
theorem dX9_entry_276 : decode cX9_entry 276 = .ok (.iload 4, 2) := by decide +kernel
theorem dX9_entry_278 : decode cX9_entry 278 = .ok (.iastore, 1) := by decide +kernel
theorem dX9_entry_279 : decode cX9_entry 279 = .ok (.aload_n 0, 1) := by decide +kernel
theorem dX9_entry_280 : decode cX9_entry 280 = .ok (.getfield 16, 3) := by decide +kernel
theorem dX9_entry_283 : decode cX9_entry 283 = .ok (.iconst 4, 1) := by decide +kernel
theorem dX9_entry_284 : decode cX9_entry 284 = .ok (.aload_n 0, 1) := by decide +kernel
theorem dX9_entry_285 : decode cX9_entry 285 = .ok (.getfield 168, 3) := by decide +kernel
theorem dX9_entry_288 : decode cX9_entry 288 = .ok (.imul, 1) := by decide +kernel
theorem dX9_entry_289 : decode cX9_entry 289 = .ok (.iconst 3, 1) := by decide +kernel
theorem dX9_entry_290 : decode cX9_entry 290 = .ok (.iadd, 1) := by decide +kernel
theorem dX9_entry_291 : decode cX9_entry 291 = .ok (.iload 5, 2) := by decide +kernel
theorem dX9_entry_293 : decode cX9_entry 293 = .ok (.iastore, 1) := by decide +kernel
theorem dX9_entry_294 : decode cX9_entry 294 = .ok (.aload_n 0, 1) := by decide +kernel
theorem dX9_entry_295 : decode cX9_entry 295 = .ok (.dup, 1) := by decide +kernel
theorem dX9_entry_296 : decode cX9_entry 296 = .ok (.getfield 168, 3) := by decide +kernel
theorem dX9_entry_299 : decode cX9_entry 299 = .ok (.iconst 1, 1) := by decide +kernel
theorem dX9_entry_300 : decode cX9_entry 300 = .ok (.iadd, 1) := by decide +kernel
theorem dX9_entry_301 : decode cX9_entry 301 = .ok (.putfield 168, 3) := by decide +kernel
theorem dX9_entry_304 : decode cX9_entry 304 = .ok (.aload_n 0, 1) := by decide +kernel
theorem dX9_entry_305 : decode cX9_entry 305 = .ok (.getfield 168, 3) := by decide +kernel
theorem dX9_entry_308 : decode cX9_entry 308 = .ok (.iconst 1, 1) := by decide +kernel
theorem dX9_entry_309 : decode cX9_entry 309 = .ok (.isub, 1) := by decide +kernel
theorem dX9_entry_310 : decode cX9_entry 310 = .ok (.ireturn, 1) := by decide +kernel
theorem dX9_isInBook_0 : decode cX9_isInBook 0 = .ok (.iconst 0, 1) := by decide +kernel
theorem dX9_isInBook_1 : decode cX9_isInBook 1 = .ok (.istore_n 2, 1) := by decide +kernel
theorem dX9_isInBook_2 : decode cX9_isInBook 2 = .ok (.iconst 0, 1) := by decide +kernel
theorem dX9_isInBook_3 : decode cX9_isInBook 3 = .ok (.istore_n 3, 1) := by decide +kernel
theorem dX9_isInBook_4 : decode cX9_isInBook 4 = .ok (.iload_n 3, 1) := by decide +kernel
theorem dX9_isInBook_5 : decode cX9_isInBook 5 = .ok (.aload_n 0, 1) := by decide +kernel
theorem dX9_isInBook_6 : decode cX9_isInBook 6 = .ok (.getfield 168, 3) := by decide +kernel
theorem dX9_isInBook_9 : decode cX9_isInBook 9 = .ok (.if_icmp .ge 29, 3) := by decide +kernel
theorem dX9_isInBook_12 : decode cX9_isInBook 12 = .ok (.iload_n 2, 1) := by decide +kernel
theorem dX9_isInBook_13 : decode cX9_isInBook 13 = .ok (.ifCond .ne 13, 3) := by decide +kernel
theorem dX9_isInBook_16 : decode cX9_isInBook 16 = .ok (.aload_n 0, 1) := by decide +kernel
theorem dX9_isInBook_17 : decode cX9_isInBook 17 = .ok (.getfield 13, 3) := by decide +kernel
theorem dX9_isInBook_20 : decode cX9_isInBook 20 = .ok (.iload_n 3, 1) := by decide +kernel
theorem dX9_isInBook_21 : decode cX9_isInBook 21 = .ok (.iaload, 1) := by decide +kernel
theorem dX9_isInBook_22 : decode cX9_isInBook 22 = .ok (.iload_n 1, 1) := by decide +kernel
theorem dX9_isInBook_23 : decode cX9_isInBook 23 = .ok (.if_icmp .ne 7, 3) := by decide +kernel
theorem dX9_isInBook_26 : decode cX9_isInBook 26 = .ok (.iconst 1, 1) := by decide +kernel
theorem dX9_isInBook_27 : decode cX9_isInBook 27 = .ok (.goto 4, 3) := by decide +kernel
theorem dX9_isInBook_30 : decode cX9_isInBook 30 = .ok (.iconst 0, 1) := by decide +kernel
theorem dX9_isInBook_31 : decode cX9_isInBook 31 = .ok (.istore_n 2, 1) := by decide +kernel
theorem dX9_isInBook_32 : decode cX9_isInBook 32 = .ok (.iinc 3 1, 3) := by decide +kernel
theorem dX9_isInBook_35 : decode cX9_isInBook 35 = .ok (.goto (-31), 3) := by decide +kernel
theorem dX9_isInBook_38 : decode cX9_isInBook 38 = .ok (.iload_n 2, 1) := by decide +kernel
theorem dX9_isInBook_39 : decode cX9_isInBook 39 = .ok (.ireturn, 1) := by decide +kernel
theorem dX9_candidateAt_0 : decode cX9_candidateAt 0 = .ok (.aload_n 0, 1) := by decide +kernel
theorem dX9_candidateAt_1 : decode cX9_candidateAt 1 = .ok (.iload_n 1, 1) := by decide +kernel
theorem dX9_candidateAt_2 : decode cX9_candidateAt 2 = .ok (.invokevirtual 171, 3) := by decide +kernel
theorem dX9_candidateAt_5 : decode cX9_candidateAt 5 = .ok (.istore_n 3, 1) := by decide +kernel
theorem dX9_candidateAt_6 : decode cX9_candidateAt 6 = .ok (.iload_n 2, 1) := by decide +kernel
theorem dX9_candidateAt_7 : decode cX9_candidateAt 7 = .ok (.istore 4, 2) := by decide +kernel
theorem dX9_candidateAt_9 : decode cX9_candidateAt 9 = .ok (.iconst (-1), 1) := by decide +kernel
theorem dX9_candidateAt_10 : decode cX9_candidateAt 10 = .ok (.istore 5, 2) := by decide +kernel
theorem dX9_candidateAt_12 : decode cX9_candidateAt 12 = .ok (.iconst 0, 1) := by decide +kernel
theorem dX9_candidateAt_13 : decode cX9_candidateAt 13 = .ok (.istore 6, 2) := by decide +kernel
theorem dX9_candidateAt_15 : decode cX9_candidateAt 15 = .ok (.iload 6, 2) := by decide +kernel
theorem dX9_candidateAt_17 : decode cX9_candidateAt 17 = .ok (.aload_n 0, 1) := by decide +kernel
theorem dX9_candidateAt_18 : decode cX9_candidateAt 18 = .ok (.getfield 168, 3) := by decide +kernel
theorem dX9_candidateAt_21 : decode cX9_candidateAt 21 = .ok (.if_icmp .ge 90, 3) := by decide +kernel
theorem dX9_candidateAt_24 : decode cX9_candidateAt 24 = .ok (.iload_n 3, 1) := by decide +kernel
theorem dX9_candidateAt_25 : decode cX9_candidateAt 25 = .ok (.ifCond .eq 22, 3) := by decide +kernel
theorem dX9_candidateAt_28 : decode cX9_candidateAt 28 = .ok (.aload_n 0, 1) := by decide +kernel
theorem dX9_candidateAt_29 : decode cX9_candidateAt 29 = .ok (.getfield 13, 3) := by decide +kernel
theorem dX9_candidateAt_32 : decode cX9_candidateAt 32 = .ok (.iload 6, 2) := by decide +kernel
theorem dX9_candidateAt_34 : decode cX9_candidateAt 34 = .ok (.iaload, 1) := by decide +kernel
theorem dX9_candidateAt_35 : decode cX9_candidateAt 35 = .ok (.iload_n 1, 1) := by decide +kernel
theorem dX9_candidateAt_36 : decode cX9_candidateAt 36 = .ok (.if_icmp .ne 7, 3) := by decide +kernel
theorem dX9_candidateAt_39 : decode cX9_candidateAt 39 = .ok (.iconst 1, 1) := by decide +kernel
theorem dX9_candidateAt_40 : decode cX9_candidateAt 40 = .ok (.goto 41, 3) := by decide +kernel
theorem dX9_candidateAt_43 : decode cX9_candidateAt 43 = .ok (.iconst 0, 1) := by decide +kernel
theorem dX9_candidateAt_44 : decode cX9_candidateAt 44 = .ok (.goto 37, 3) := by decide +kernel
theorem dX9_candidateAt_47 : decode cX9_candidateAt 47 = .ok (.aload_n 0, 1) := by decide +kernel
theorem dX9_candidateAt_48 : decode cX9_candidateAt 48 = .ok (.getfield 13, 3) := by decide +kernel
theorem dX9_candidateAt_51 : decode cX9_candidateAt 51 = .ok (.iload 6, 2) := by decide +kernel
theorem dX9_candidateAt_53 : decode cX9_candidateAt 53 = .ok (.iaload, 1) := by decide +kernel
theorem dX9_candidateAt_54 : decode cX9_candidateAt 54 = .ok (.iload_n 1, 1) := by decide +kernel
theorem dX9_candidateAt_55 : decode cX9_candidateAt 55 = .ok (.invokestatic 147, 3) := by decide +kernel
theorem dX9_candidateAt_58 : decode cX9_candidateAt 58 = .ok (.iconst 1, 1) := by decide +kernel
theorem dX9_candidateAt_59 : decode cX9_candidateAt 59 = .ok (.if_icmp .eq 17, 3) := by decide +kernel
theorem dX9_candidateAt_62 : decode cX9_candidateAt 62 = .ok (.aload_n 0, 1) := by decide +kernel
theorem dX9_candidateAt_63 : decode cX9_candidateAt 63 = .ok (.getfield 13, 3) := by decide +kernel
theorem dX9_candidateAt_66 : decode cX9_candidateAt 66 = .ok (.iload 6, 2) := by decide +kernel
theorem dX9_candidateAt_68 : decode cX9_candidateAt 68 = .ok (.iaload, 1) := by decide +kernel
theorem dX9_candidateAt_69 : decode cX9_candidateAt 69 = .ok (.iload_n 1, 1) := by decide +kernel
theorem dX9_candidateAt_70 : decode cX9_candidateAt 70 = .ok (.invokestatic 174, 3) := by decide +kernel
theorem dX9_candidateAt_73 : decode cX9_candidateAt 73 = .ok (.ifCond .eq 7, 3) := by decide +kernel
theorem dX9_candidateAt_76 : decode cX9_candidateAt 76 = .ok (.iconst 1, 1) := by decide +kernel
theorem dX9_candidateAt_77 : decode cX9_candidateAt 77 = .ok (.goto 4, 3) := by decide +kernel
theorem dX9_candidateAt_80 : decode cX9_candidateAt 80 = .ok (.iconst 0, 1) := by decide +kernel
theorem dX9_candidateAt_81 : decode cX9_candidateAt 81 = .ok (.istore 7, 2) := by decide +kernel
theorem dX9_candidateAt_83 : decode cX9_candidateAt 83 = .ok (.iload 7, 2) := by decide +kernel
theorem dX9_candidateAt_85 : decode cX9_candidateAt 85 = .ok (.ifCond .eq 20, 3) := by decide +kernel
theorem dX9_candidateAt_88 : decode cX9_candidateAt 88 = .ok (.iload 4, 2) := by decide +kernel
theorem dX9_candidateAt_90 : decode cX9_candidateAt 90 = .ok (.ifCond .ne 8, 3) := by decide +kernel
theorem dX9_candidateAt_93 : decode cX9_candidateAt 93 = .ok (.iload 6, 2) := by decide +kernel
theorem dX9_candidateAt_95 : decode cX9_candidateAt 95 = .ok (.goto 5, 3) := by decide +kernel
theorem dX9_candidateAt_98 : decode cX9_candidateAt 98 = .ok (.iload 5, 2) := by decide +kernel
theorem dX9_candidateAt_100 : decode cX9_candidateAt 100 = .ok (.istore 5, 2) := by decide +kernel
theorem dX9_candidateAt_102 : decode cX9_candidateAt 102 = .ok (.iinc 4 (-1), 3) := by decide +kernel
theorem dX9_candidateAt_105 : decode cX9_candidateAt 105 = .ok (.iinc 6 1, 3) := by decide +kernel
theorem dX9_candidateAt_108 : decode cX9_candidateAt 108 = .ok (.goto (-93), 3) := by decide +kernel
theorem dX9_candidateAt_111 : decode cX9_candidateAt 111 = .ok (.iload 5, 2) := by decide +kernel
theorem dX9_candidateAt_113 : decode cX9_candidateAt 113 = .ok (.ireturn, 1) := by decide +kernel
theorem dX9_candidatesOf_0 : decode cX9_candidatesOf 0 = .ok (.iconst 0, 1) := by decide +kernel
theorem dX9_candidatesOf_1 : decode cX9_candidatesOf 1 = .ok (.istore_n 2, 1) := by decide +kernel
theorem dX9_candidatesOf_2 : decode cX9_candidatesOf 2 = .ok (.aload_n 0, 1) := by decide +kernel
theorem dX9_candidatesOf_3 : decode cX9_candidatesOf 3 = .ok (.iload_n 1, 1) := by decide +kernel
theorem dX9_candidatesOf_4 : decode cX9_candidatesOf 4 = .ok (.iload_n 2, 1) := by decide +kernel
theorem dX9_candidatesOf_5 : decode cX9_candidatesOf 5 = .ok (.invokevirtual 178, 3) := by decide +kernel
theorem dX9_candidatesOf_8 : decode cX9_candidatesOf 8 = .ok (.iconst (-1), 1) := by decide +kernel
theorem dX9_candidatesOf_9 : decode cX9_candidatesOf 9 = .ok (.if_icmp .eq 9, 3) := by decide +kernel
theorem dX9_candidatesOf_12 : decode cX9_candidatesOf 12 = .ok (.iinc 2 1, 3) := by decide +kernel
theorem dX9_candidatesOf_15 : decode cX9_candidatesOf 15 = .ok (.goto (-13), 3) := by decide +kernel
theorem dX9_candidatesOf_18 : decode cX9_candidatesOf 18 = .ok (.iload_n 2, 1) := by decide +kernel
theorem dX9_candidatesOf_19 : decode cX9_candidatesOf 19 = .ok (.ireturn, 1) := by decide +kernel
theorem dX9_candidates_0 : decode cX9_candidates 0 = .ok (.aload_n 0, 1) := by decide +kernel
theorem dX9_candidates_1 : decode cX9_candidates 1 = .ok (.iload_n 1, 1) := by decide +kernel
theorem dX9_candidates_2 : decode cX9_candidates 2 = .ok (.invokestatic 165, 3) := by decide +kernel
theorem dX9_candidates_5 : decode cX9_candidates 5 = .ok (.invokevirtual 150, 3) := by decide +kernel
theorem dX9_candidates_8 : decode cX9_candidates 8 = .ok (.ifCond .eq 11, 3) := by decide +kernel
theorem dX9_candidates_11 : decode cX9_candidates 11 = .ok (.aload_n 0, 1) := by decide +kernel
theorem dX9_candidates_12 : decode cX9_candidates 12 = .ok (.iload_n 1, 1) := by decide +kernel
theorem dX9_candidates_13 : decode cX9_candidates 13 = .ok (.invokevirtual 181, 3) := by decide +kernel
theorem dX9_candidates_16 : decode cX9_candidates 16 = .ok (.goto 4, 3) := by decide +kernel
theorem dX9_candidates_19 : decode cX9_candidates 19 = .ok (.iconst 0, 1) := by decide +kernel
theorem dX9_candidates_20 : decode cX9_candidates 20 = .ok (.ireturn, 1) := by decide +kernel
theorem dX9_candidate_0 : decode cX9_candidate 0 = .ok (.aload_n 0, 1) := by decide +kernel
theorem dX9_candidate_1 : decode cX9_candidate 1 = .ok (.iload_n 2, 1) := by decide +kernel
theorem dX9_candidate_2 : decode cX9_candidate 2 = .ok (.ifCond .lt 7, 3) := by decide +kernel
theorem dX9_candidate_5 : decode cX9_candidate 5 = .ok (.iconst 1, 1) := by decide +kernel
theorem dX9_candidate_6 : decode cX9_candidate 6 = .ok (.goto 4, 3) := by decide +kernel
theorem dX9_candidate_9 : decode cX9_candidate 9 = .ok (.iconst 0, 1) := by decide +kernel
theorem dX9_candidate_10 : decode cX9_candidate 10 = .ok (.invokevirtual 150, 3) := by decide +kernel
theorem dX9_candidate_13 : decode cX9_candidate 13 = .ok (.ifCond .ne 5, 3) := by decide +kernel
theorem dX9_candidate_16 : decode cX9_candidate 16 = .ok (.iconst 0, 1) := by decide +kernel
theorem dX9_candidate_17 : decode cX9_candidate 17 = .ok (.ireturn, 1) := by decide +kernel
theorem dX9_candidate_18 : decode cX9_candidate 18 = .ok (.iload_n 1, 1) := by decide +kernel
theorem dX9_candidate_19 : decode cX9_candidate 19 = .ok (.invokestatic 165, 3) := by decide +kernel
theorem dX9_candidate_22 : decode cX9_candidate 22 = .ok (.ifCond .eq 12, 3) := by decide +kernel
theorem dX9_candidate_25 : decode cX9_candidate 25 = .ok (.aload_n 0, 1) := by decide +kernel
theorem dX9_candidate_26 : decode cX9_candidate 26 = .ok (.iload_n 1, 1) := by decide +kernel
theorem dX9_candidate_27 : decode cX9_candidate 27 = .ok (.iload_n 2, 1) := by decide +kernel
theorem dX9_candidate_28 : decode cX9_candidate 28 = .ok (.invokevirtual 178, 3) := by decide +kernel
theorem dX9_candidate_31 : decode cX9_candidate 31 = .ok (.goto 8, 3) := by decide +kernel
theorem dX9_candidate_34 : decode cX9_candidate 34 = .ok (.aload_n 0, 1) := by decide +kernel
theorem dX9_candidate_35 : decode cX9_candidate 35 = .ok (.iconst 2, 1) := by decide +kernel
theorem dX9_candidate_36 : decode cX9_candidate 36 = .ok (.invokevirtual 154, 3) := by decide +kernel
theorem dX9_candidate_39 : decode cX9_candidate 39 = .ok (.ireturn, 1) := by decide +kernel
theorem dX9_office_0 : decode cX9_office 0 = .ok (.aload_n 0, 1) := by decide +kernel
theorem dX9_office_1 : decode cX9_office 1 = .ok (.iconst 0, 1) := by decide +kernel
theorem dX9_office_2 : decode cX9_office 2 = .ok (.putfield 122, 3) := by decide +kernel
theorem dX9_office_5 : decode cX9_office 5 = .ok (.aload_n 0, 1) := by decide +kernel
theorem dX9_office_6 : decode cX9_office 6 = .ok (.getfield 133, 3) := by decide +kernel
theorem dX9_office_9 : decode cX9_office 9 = .ok (.bipush 8, 2) := by decide +kernel
theorem dX9_office_11 : decode cX9_office 11 = .ok (.if_icmp .ne 9, 3) := by decide +kernel
theorem dX9_office_14 : decode cX9_office 14 = .ok (.aload_n 0, 1) := by decide +kernel
theorem dX9_office_15 : decode cX9_office 15 = .ok (.iconst 1, 1) := by decide +kernel
theorem dX9_office_16 : decode cX9_office 16 = .ok (.invokevirtual 154, 3) := by decide +kernel
theorem dX9_office_19 : decode cX9_office 19 = .ok (.ireturn, 1) := by decide +kernel
theorem dX9_office_20 : decode cX9_office 20 = .ok (.aload_n 0, 1) := by decide +kernel
theorem dX9_office_21 : decode cX9_office 21 = .ok (.dup, 1) := by decide +kernel
theorem dX9_office_22 : decode cX9_office 22 = .ok (.getfield 133, 3) := by decide +kernel
theorem dX9_office_25 : decode cX9_office 25 = .ok (.iconst 1, 1) := by decide +kernel
theorem dX9_office_26 : decode cX9_office 26 = .ok (.iadd, 1) := by decide +kernel
theorem dX9_office_27 : decode cX9_office 27 = .ok (.putfield 133, 3) := by decide +kernel
theorem dX9_office_30 : decode cX9_office 30 = .ok (.aload_n 0, 1) := by decide +kernel
theorem dX9_office_31 : decode cX9_office 31 = .ok (.getfield 133, 3) := by decide +kernel
theorem dX9_office_34 : decode cX9_office 34 = .ok (.iconst 1, 1) := by decide +kernel
theorem dX9_office_35 : decode cX9_office 35 = .ok (.isub, 1) := by decide +kernel
theorem dX9_office_36 : decode cX9_office 36 = .ok (.ireturn, 1) := by decide +kernel
theorem dX9_cable_0 : decode cX9_cable 0 = .ok (.aload_n 0, 1) := by decide +kernel
theorem dX9_cable_1 : decode cX9_cable 1 = .ok (.aload_n 0, 1) := by decide +kernel
theorem dX9_cable_2 : decode cX9_cable 2 = .ok (.iload_n 1, 1) := by decide +kernel
theorem dX9_cable_3 : decode cX9_cable 3 = .ok (.invokevirtual 184, 3) := by decide +kernel
theorem dX9_cable_6 : decode cX9_cable 6 = .ok (.ifCond .eq 15, 3) := by decide +kernel
theorem dX9_cable_9 : decode cX9_cable 9 = .ok (.aload_n 0, 1) := by decide +kernel
theorem dX9_cable_10 : decode cX9_cable 10 = .ok (.iload_n 2, 1) := by decide +kernel
theorem dX9_cable_11 : decode cX9_cable 11 = .ok (.invokevirtual 184, 3) := by decide +kernel
theorem dX9_cable_14 : decode cX9_cable 14 = .ok (.ifCond .eq 7, 3) := by decide +kernel
theorem dX9_cable_17 : decode cX9_cable 17 = .ok (.iconst 1, 1) := by decide +kernel
theorem dX9_cable_18 : decode cX9_cable 18 = .ok (.goto 4, 3) := by decide +kernel
theorem dX9_cable_21 : decode cX9_cable 21 = .ok (.iconst 0, 1) := by decide +kernel
theorem dX9_cable_22 : decode cX9_cable 22 = .ok (.invokevirtual 150, 3) := by decide +kernel
theorem dX9_cable_25 : decode cX9_cable 25 = .ok (.ifCond .ne 5, 3) := by decide +kernel
theorem dX9_cable_28 : decode cX9_cable 28 = .ok (.iconst 0, 1) := by decide +kernel
theorem dX9_cable_29 : decode cX9_cable 29 = .ok (.ireturn, 1) := by decide +kernel
theorem dX9_cable_30 : decode cX9_cable 30 = .ok (.iload_n 1, 1) := by decide +kernel
theorem dX9_cable_31 : decode cX9_cable 31 = .ok (.iload_n 2, 1) := by decide +kernel
theorem dX9_cable_32 : decode cX9_cable 32 = .ok (.if_icmp .eq 24, 3) := by decide +kernel
theorem dX9_cable_35 : decode cX9_cable 35 = .ok (.iload_n 3, 1) := by decide +kernel
theorem dX9_cable_36 : decode cX9_cable 36 = .ok (.iconst 1, 1) := by decide +kernel
theorem dX9_cable_37 : decode cX9_cable 37 = .ok (.bipush 100, 2) := by decide +kernel
theorem dX9_cable_39 : decode cX9_cable 39 = .ok (.invokestatic 129, 3) := by decide +kernel
theorem dX9_cable_42 : decode cX9_cable 42 = .ok (.ifCond .eq 14, 3) := by decide +kernel
theorem dX9_cable_45 : decode cX9_cable 45 = .ok (.iload 4, 2) := by decide +kernel
theorem dX9_cable_47 : decode cX9_cable 47 = .ok (.iconst 1, 1) := by decide +kernel
theorem dX9_cable_48 : decode cX9_cable 48 = .ok (.bipush 20, 2) := by decide +kernel
theorem dX9_cable_50 : decode cX9_cable 50 = .ok (.invokestatic 129, 3) := by decide +kernel
theorem dX9_cable_53 : decode cX9_cable 53 = .ok (.ifCond .ne 9, 3) := by decide +kernel
theorem dX9_cable_56 : decode cX9_cable 56 = .ok (.aload_n 0, 1) := by decide +kernel
theorem dX9_cable_57 : decode cX9_cable 57 = .ok (.iconst 2, 1) := by decide +kernel
theorem dX9_cable_58 : decode cX9_cable 58 = .ok (.invokevirtual 154, 3) := by decide +kernel
theorem dX9_cable_61 : decode cX9_cable 61 = .ok (.ireturn, 1) := by decide +kernel
theorem dX9_cable_62 : decode cX9_cable 62 = .ok (.aload_n 0, 1) := by decide +kernel
theorem dX9_cable_63 : decode cX9_cable 63 = .ok (.getfield 136, 3) := by decide +kernel
theorem dX9_cable_66 : decode cX9_cable 66 = .ok (.bipush 12, 2) := by decide +kernel
theorem dX9_cable_68 : decode cX9_cable 68 = .ok (.if_icmp .ne 9, 3) := by decide +kernel
theorem dX9_cable_71 : decode cX9_cable 71 = .ok (.aload_n 0, 1) := by decide +kernel
theorem dX9_cable_72 : decode cX9_cable 72 = .ok (.iconst 3, 1) := by decide +kernel
theorem dX9_cable_73 : decode cX9_cable 73 = .ok (.invokevirtual 154, 3) := by decide +kernel
theorem dX9_cable_76 : decode cX9_cable 76 = .ok (.ireturn, 1) := by decide +kernel
theorem dX9_cable_77 : decode cX9_cable 77 = .ok (.aload_n 0, 1) := by decide +kernel
theorem dX9_cable_78 : decode cX9_cable 78 = .ok (.getfield 32, 3) := by decide +kernel
theorem dX9_cable_81 : decode cX9_cable 81 = .ok (.aload_n 0, 1) := by decide +kernel
theorem dX9_cable_82 : decode cX9_cable 82 = .ok (.getfield 136, 3) := by decide +kernel
theorem dX9_cable_85 : decode cX9_cable 85 = .ok (.iload_n 1, 1) := by decide +kernel
theorem dX9_cable_86 : decode cX9_cable 86 = .ok (.iastore, 1) := by decide +kernel
theorem dX9_cable_87 : decode cX9_cable 87 = .ok (.aload_n 0, 1) := by decide +kernel
theorem dX9_cable_88 : decode cX9_cable 88 = .ok (.getfield 35, 3) := by decide +kernel
theorem dX9_cable_91 : decode cX9_cable 91 = .ok (.aload_n 0, 1) := by decide +kernel
theorem dX9_cable_92 : decode cX9_cable 92 = .ok (.getfield 136, 3) := by decide +kernel
theorem dX9_cable_95 : decode cX9_cable 95 = .ok (.iload_n 2, 1) := by decide +kernel
theorem dX9_cable_96 : decode cX9_cable 96 = .ok (.iastore, 1) := by decide +kernel
theorem dX9_cable_97 : decode cX9_cable 97 = .ok (.aload_n 0, 1) := by decide +kernel
theorem dX9_cable_98 : decode cX9_cable 98 = .ok (.getfield 38, 3) := by decide +kernel
theorem dX9_cable_101 : decode cX9_cable 101 = .ok (.aload_n 0, 1) := by decide +kernel
theorem dX9_cable_102 : decode cX9_cable 102 = .ok (.getfield 136, 3) := by decide +kernel
theorem dX9_cable_105 : decode cX9_cable 105 = .ok (.iload_n 3, 1) := by decide +kernel
theorem dX9_cable_106 : decode cX9_cable 106 = .ok (.iastore, 1) := by decide +kernel
theorem dX9_cable_107 : decode cX9_cable 107 = .ok (.aload_n 0, 1) := by decide +kernel
theorem dX9_cable_108 : decode cX9_cable 108 = .ok (.getfield 41, 3) := by decide +kernel
theorem dX9_cable_111 : decode cX9_cable 111 = .ok (.aload_n 0, 1) := by decide +kernel
theorem dX9_cable_112 : decode cX9_cable 112 = .ok (.getfield 136, 3) := by decide +kernel
theorem dX9_cable_115 : decode cX9_cable 115 = .ok (.iload 4, 2) := by decide +kernel
theorem dX9_cable_117 : decode cX9_cable 117 = .ok (.iastore, 1) := by decide +kernel
theorem dX9_cable_118 : decode cX9_cable 118 = .ok (.aload_n 0, 1) := by decide +kernel
theorem dX9_cable_119 : decode cX9_cable 119 = .ok (.dup, 1) := by decide +kernel
theorem dX9_cable_120 : decode cX9_cable 120 = .ok (.getfield 136, 3) := by decide +kernel
theorem dX9_cable_123 : decode cX9_cable 123 = .ok (.iconst 1, 1) := by decide +kernel
theorem dX9_cable_124 : decode cX9_cable 124 = .ok (.iadd, 1) := by decide +kernel
theorem dX9_cable_125 : decode cX9_cable 125 = .ok (.putfield 136, 3) := by decide +kernel
theorem dX9_cable_128 : decode cX9_cable 128 = .ok (.aload_n 0, 1) := by decide +kernel
theorem dX9_cable_129 : decode cX9_cable 129 = .ok (.getfield 136, 3) := by decide +kernel
theorem dX9_cable_132 : decode cX9_cable 132 = .ok (.iconst 1, 1) := by decide +kernel
theorem dX9_cable_133 : decode cX9_cable 133 = .ok (.isub, 1) := by decide +kernel
theorem dX9_cable_134 : decode cX9_cable 134 = .ok (.ireturn, 1) := by decide +kernel
theorem dX9_cableOf_0 : decode cX9_cableOf 0 = .ok (.aload_n 0, 1) := by decide +kernel
theorem dX9_cableOf_1 : decode cX9_cableOf 1 = .ok (.getfield 77, 3) := by decide +kernel
theorem dX9_cableOf_4 : decode cX9_cableOf 4 = .ok (.iload_n 1, 1) := by decide +kernel
theorem dX9_cableOf_5 : decode cX9_cableOf 5 = .ok (.iaload, 1) := by decide +kernel
theorem dX9_cableOf_6 : decode cX9_cableOf 6 = .ok (.ifCond .ne 22, 3) := by decide +kernel
theorem dX9_cableOf_9 : decode cX9_cableOf 9 = .ok (.aload_n 0, 1) := by decide +kernel
theorem dX9_cableOf_10 : decode cX9_cableOf 10 = .ok (.getfield 101, 3) := by decide +kernel
theorem dX9_cableOf_13 : decode cX9_cableOf 13 = .ok (.bipush 8, 2) := by decide +kernel
theorem dX9_cableOf_15 : decode cX9_cableOf 15 = .ok (.iload_n 1, 1) := by decide +kernel
theorem dX9_cableOf_16 : decode cX9_cableOf 16 = .ok (.imul, 1) := by decide +kernel
theorem dX9_cableOf_17 : decode cX9_cableOf 17 = .ok (.aload_n 0, 1) := by decide +kernel
theorem dX9_cableOf_18 : decode cX9_cableOf 18 = .ok (.getfield 107, 3) := by decide +kernel
theorem dX9_cableOf_21 : decode cX9_cableOf 21 = .ok (.iload_n 1, 1) := by decide +kernel
theorem dX9_cableOf_22 : decode cX9_cableOf 22 = .ok (.iaload, 1) := by decide +kernel
theorem dX9_cableOf_23 : decode cX9_cableOf 23 = .ok (.iadd, 1) := by decide +kernel
theorem dX9_cableOf_24 : decode cX9_cableOf 24 = .ok (.iaload, 1) := by decide +kernel
theorem dX9_cableOf_25 : decode cX9_cableOf 25 = .ok (.goto 4, 3) := by decide +kernel
theorem dX9_cableOf_28 : decode cX9_cableOf 28 = .ok (.iconst (-1), 1) := by decide +kernel
theorem dX9_cableOf_29 : decode cX9_cableOf 29 = .ok (.ireturn, 1) := by decide +kernel
theorem dX9_broken_0 : decode cX9_broken 0 = .ok (.aload_n 0, 1) := by decide +kernel
theorem dX9_broken_1 : decode cX9_broken 1 = .ok (.aload_n 0, 1) := by decide +kernel
theorem dX9_broken_2 : decode cX9_broken 2 = .ok (.iload_n 1, 1) := by decide +kernel
theorem dX9_broken_3 : decode cX9_broken 3 = .ok (.invokevirtual 187, 3) := by decide +kernel
theorem dX9_broken_6 : decode cX9_broken 6 = .ok (.invokevirtual 150, 3) := by decide +kernel
theorem dX9_broken_9 : decode cX9_broken 9 = .ok (.ifCond .ne 5, 3) := by decide +kernel
theorem dX9_broken_12 : decode cX9_broken 12 = .ok (.iconst 0, 1) := by decide +kernel
theorem dX9_broken_13 : decode cX9_broken 13 = .ok (.ireturn, 1) := by decide +kernel
theorem dX9_broken_14 : decode cX9_broken 14 = .ok (.aload_n 0, 1) := by decide +kernel
theorem dX9_broken_15 : decode cX9_broken 15 = .ok (.getfield 44, 3) := by decide +kernel
theorem dX9_broken_18 : decode cX9_broken 18 = .ok (.iload_n 1, 1) := by decide +kernel
theorem dX9_broken_19 : decode cX9_broken 19 = .ok (.iload_n 2, 1) := by decide +kernel
theorem dX9_broken_20 : decode cX9_broken 20 = .ok (.bastore, 1) := by decide +kernel
theorem dX9_broken_21 : decode cX9_broken 21 = .ok (.iconst 0, 1) := by decide +kernel
theorem dX9_broken_22 : decode cX9_broken 22 = .ok (.istore_n 3, 1) := by decide +kernel
theorem dX9_broken_23 : decode cX9_broken 23 = .ok (.iconst 0, 1) := by decide +kernel
theorem dX9_broken_24 : decode cX9_broken 24 = .ok (.istore 4, 2) := by decide +kernel
theorem dX9_broken_26 : decode cX9_broken 26 = .ok (.iload 4, 2) := by decide +kernel
theorem dX9_broken_28 : decode cX9_broken 28 = .ok (.aload_n 0, 1) := by decide +kernel
theorem dX9_broken_29 : decode cX9_broken 29 = .ok (.getfield 139, 3) := by decide +kernel
theorem dX9_broken_32 : decode cX9_broken 32 = .ok (.if_icmp .ge 27, 3) := by decide +kernel
theorem dX9_broken_35 : decode cX9_broken 35 = .ok (.iload_n 3, 1) := by decide +kernel
theorem dX9_broken_36 : decode cX9_broken 36 = .ok (.aload_n 0, 1) := by decide +kernel
theorem dX9_broken_37 : decode cX9_broken 37 = .ok (.iload 4, 2) := by decide +kernel
theorem dX9_broken_39 : decode cX9_broken 39 = .ok (.invokevirtual 190, 3) := by decide +kernel
theorem dX9_broken_42 : decode cX9_broken 42 = .ok (.iload_n 1, 1) := by decide +kernel
theorem dX9_broken_43 : decode cX9_broken 43 = .ok (.if_icmp .ne 7, 3) := by decide +kernel
theorem dX9_broken_46 : decode cX9_broken 46 = .ok (.iconst 1, 1) := by decide +kernel
theorem dX9_broken_47 : decode cX9_broken 47 = .ok (.goto 4, 3) := by decide +kernel
theorem dX9_broken_50 : decode cX9_broken 50 = .ok (.iconst 0, 1) := by decide +kernel
theorem dX9_broken_51 : decode cX9_broken 51 = .ok (.iadd, 1) := by decide +kernel
theorem dX9_broken_52 : decode cX9_broken 52 = .ok (.istore_n 3, 1) := by decide +kernel
theorem dX9_broken_53 : decode cX9_broken 53 = .ok (.iinc 4 1, 3) := by decide +kernel
theorem dX9_broken_56 : decode cX9_broken 56 = .ok (.goto (-30), 3) := by decide +kernel
theorem dX9_broken_59 : decode cX9_broken 59 = .ok (.iload_n 3, 1) := by decide +kernel
theorem dX9_broken_60 : decode cX9_broken 60 = .ok (.ireturn, 1) := by decide +kernel
theorem dX9_forbid_0 : decode cX9_forbid 0 = .ok (.aload_n 0, 1) := by decide +kernel
theorem dX9_forbid_1 : decode cX9_forbid 1 = .ok (.aload_n 0, 1) := by decide +kernel
theorem dX9_forbid_2 : decode cX9_forbid 2 = .ok (.iload_n 1, 1) := by decide +kernel
theorem dX9_forbid_3 : decode cX9_forbid 3 = .ok (.invokevirtual 184, 3) := by decide +kernel
theorem dX9_forbid_6 : decode cX9_forbid 6 = .ok (.invokevirtual 150, 3) := by decide +kernel
theorem dX9_forbid_9 : decode cX9_forbid 9 = .ok (.ifCond .ne 5, 3) := by decide +kernel
theorem dX9_forbid_12 : decode cX9_forbid 12 = .ok (.iconst 0, 1) := by decide +kernel
theorem dX9_forbid_13 : decode cX9_forbid 13 = .ok (.ireturn, 1) := by decide +kernel
theorem dX9_forbid_14 : decode cX9_forbid 14 = .ok (.aload_n 0, 1) := by decide +kernel
theorem dX9_forbid_15 : decode cX9_forbid 15 = .ok (.getfield 19, 3) := by decide +kernel
theorem dX9_forbid_18 : decode cX9_forbid 18 = .ok (.iload_n 1, 1) := by decide +kernel
theorem dX9_forbid_19 : decode cX9_forbid 19 = .ok (.baload, 1) := by decide +kernel
theorem dX9_forbid_20 : decode cX9_forbid 20 = .ok (.istore_n 3, 1) := by decide +kernel
theorem dX9_forbid_21 : decode cX9_forbid 21 = .ok (.aload_n 0, 1) := by decide +kernel
theorem dX9_forbid_22 : decode cX9_forbid 22 = .ok (.getfield 19, 3) := by decide +kernel
theorem dX9_forbid_25 : decode cX9_forbid 25 = .ok (.iload_n 1, 1) := by decide +kernel
theorem dX9_forbid_26 : decode cX9_forbid 26 = .ok (.iload_n 2, 1) := by decide +kernel
theorem dX9_forbid_27 : decode cX9_forbid 27 = .ok (.bastore, 1) := by decide +kernel
theorem dX9_forbid_28 : decode cX9_forbid 28 = .ok (.iload_n 3, 1) := by decide +kernel
theorem dX9_forbid_29 : decode cX9_forbid 29 = .ok (.ireturn, 1) := by decide +kernel
theorem dX9_key_0 : decode cX9_key 0 = .ok (.aload_n 0, 1) := by decide +kernel
theorem dX9_key_1 : decode cX9_key 1 = .ok (.aload_n 0, 1) := by decide +kernel
theorem dX9_key_2 : decode cX9_key 2 = .ok (.iload_n 1, 1) := by decide +kernel
theorem dX9_key_3 : decode cX9_key 3 = .ok (.invokevirtual 184, 3) := by decide +kernel
theorem dX9_key_6 : decode cX9_key 6 = .ok (.invokevirtual 150, 3) := by decide +kernel
theorem dX9_key_9 : decode cX9_key 9 = .ok (.ifCond .ne 5, 3) := by decide +kernel
theorem dX9_key_12 : decode cX9_key 12 = .ok (.iconst 0, 1) := by decide +kernel
theorem dX9_key_13 : decode cX9_key 13 = .ok (.ireturn, 1) := by decide +kernel
theorem dX9_key_14 : decode cX9_key 14 = .ok (.iload_n 2, 1) := by decide +kernel
theorem dX9_key_15 : decode cX9_key 15 = .ok (.iconst 0, 1) := by decide +kernel
theorem dX9_key_16 : decode cX9_key 16 = .ok (.bipush 39, 2) := by decide +kernel
theorem dX9_key_18 : decode cX9_key 18 = .ok (.invokestatic 129, 3) := by decide +kernel
theorem dX9_key_21 : decode cX9_key 21 = .ok (.ifCond .ne 9, 3) := by decide +kernel
theorem dX9_key_24 : decode cX9_key 24 = .ok (.aload_n 0, 1) := by decide +kernel
theorem dX9_key_25 : decode cX9_key 25 = .ok (.iconst 2, 1) := by decide +kernel
theorem dX9_key_26 : decode cX9_key 26 = .ok (.invokevirtual 154, 3) := by decide +kernel
theorem dX9_key_29 : decode cX9_key 29 = .ok (.ireturn, 1) := by decide +kernel
theorem dX9_key_30 : decode cX9_key 30 = .ok (.aload_n 0, 1) := by decide +kernel
theorem dX9_key_31 : decode cX9_key 31 = .ok (.getfield 23, 3) := by decide +kernel
theorem dX9_key_34 : decode cX9_key 34 = .ok (.iload_n 1, 1) := by decide +kernel
theorem dX9_key_35 : decode cX9_key 35 = .ok (.iaload, 1) := by decide +kernel
theorem dX9_key_36 : decode cX9_key 36 = .ok (.istore_n 3, 1) := by decide +kernel
theorem dX9_key_37 : decode cX9_key 37 = .ok (.aload_n 0, 1) := by decide +kernel
theorem dX9_key_38 : decode cX9_key 38 = .ok (.getfield 23, 3) := by decide +kernel
theorem dX9_key_41 : decode cX9_key 41 = .ok (.iload_n 1, 1) := by decide +kernel
theorem dX9_key_42 : decode cX9_key 42 = .ok (.iload_n 2, 1) := by decide +kernel
theorem dX9_key_43 : decode cX9_key 43 = .ok (.iastore, 1) := by decide +kernel
theorem dX9_key_44 : decode cX9_key 44 = .ok (.iload_n 3, 1) := by decide +kernel
theorem dX9_key_45 : decode cX9_key 45 = .ok (.ireturn, 1) := by decide +kernel
theorem dX9_conference_0 : decode cX9_conference 0 = .ok (.aload_n 0, 1) := by decide +kernel
theorem dX9_conference_1 : decode cX9_conference 1 = .ok (.iload_n 1, 1) := by decide +kernel
theorem dX9_conference_2 : decode cX9_conference 2 = .ok (.iconst 0, 1) := by decide +kernel
theorem dX9_conference_3 : decode cX9_conference 3 = .ok (.sipush 1000, 3) := by decide +kernel
theorem dX9_conference_6 : decode cX9_conference 6 = .ok (.invokestatic 129, 3) := by decide +kernel
theorem dX9_conference_9 : decode cX9_conference 9 = .ok (.ifCond .eq 44, 3) := by decide +kernel
theorem dX9_conference_12 : decode cX9_conference 12 = .ok (.iload_n 2, 1) := by decide +kernel
theorem dX9_conference_13 : decode cX9_conference 13 = .ok (.iconst 5, 1) := by decide +kernel
theorem dX9_conference_14 : decode cX9_conference 14 = .ok (.bipush 20, 2) := by decide +kernel
theorem dX9_conference_16 : decode cX9_conference 16 = .ok (.invokestatic 129, 3) := by decide +kernel
theorem dX9_conference_19 : decode cX9_conference 19 = .ok (.ifCond .eq 34, 3) := by decide +kernel
theorem dX9_conference_22 : decode cX9_conference 22 = .ok (.iload_n 3, 1) := by decide +kernel
theorem dX9_conference_23 : decode cX9_conference 23 = .ok (.iconst 5, 1) := by decide +kernel
theorem dX9_conference_24 : decode cX9_conference 24 = .ok (.if_icmp .eq 15, 3) := by decide +kernel
theorem dX9_conference_27 : decode cX9_conference 27 = .ok (.iload_n 3, 1) := by decide +kernel
theorem dX9_conference_28 : decode cX9_conference 28 = .ok (.bipush 10, 2) := by decide +kernel
theorem dX9_conference_30 : decode cX9_conference 30 = .ok (.if_icmp .eq 9, 3) := by decide +kernel
theorem dX9_conference_33 : decode cX9_conference 33 = .ok (.iload_n 3, 1) := by decide +kernel
theorem dX9_conference_34 : decode cX9_conference 34 = .ok (.bipush 15, 2) := by decide +kernel
theorem dX9_conference_36 : decode cX9_conference 36 = .ok (.if_icmp .ne 17, 3) := by decide +kernel
theorem dX9_conference_39 : decode cX9_conference 39 = .ok (.iload 4, 2) := by decide +kernel
theorem dX9_conference_41 : decode cX9_conference 41 = .ok (.iconst 0, 1) := by decide +kernel
theorem dX9_conference_42 : decode cX9_conference 42 = .ok (.iconst 3, 1) := by decide +kernel
theorem dX9_conference_43 : decode cX9_conference 43 = .ok (.invokestatic 129, 3) := by decide +kernel
theorem dX9_conference_46 : decode cX9_conference 46 = .ok (.ifCond .eq 7, 3) := by decide +kernel
theorem dX9_conference_49 : decode cX9_conference 49 = .ok (.iconst 1, 1) := by decide +kernel
theorem dX9_conference_50 : decode cX9_conference 50 = .ok (.goto 4, 3) := by decide +kernel
theorem dX9_conference_53 : decode cX9_conference 53 = .ok (.iconst 0, 1) := by decide +kernel
theorem dX9_conference_54 : decode cX9_conference 54 = .ok (.invokevirtual 150, 3) := by decide +kernel
theorem dX9_conference_57 : decode cX9_conference 57 = .ok (.ifCond .ne 5, 3) := by decide +kernel
theorem dX9_conference_60 : decode cX9_conference 60 = .ok (.iconst 0, 1) := by decide +kernel
theorem dX9_conference_61 : decode cX9_conference 61 = .ok (.ireturn, 1) := by decide +kernel
theorem dX9_conference_62 : decode cX9_conference 62 = .ok (.aload_n 0, 1) := by decide +kernel
theorem dX9_conference_63 : decode cX9_conference 63 = .ok (.getfield 193, 3) := by decide +kernel
theorem dX9_conference_66 : decode cX9_conference 66 = .ok (.bipush 12, 2) := by decide +kernel
theorem dX9_conference_68 : decode cX9_conference 68 = .ok (.if_icmp .ne 9, 3) := by decide +kernel
theorem dX9_conference_71 : decode cX9_conference 71 = .ok (.aload_n 0, 1) := by decide +kernel
theorem dX9_conference_72 : decode cX9_conference 72 = .ok (.iconst 2, 1) := by decide +kernel
theorem dX9_conference_73 : decode cX9_conference 73 = .ok (.invokevirtual 154, 3) := by decide +kernel
theorem dX9_conference_76 : decode cX9_conference 76 = .ok (.ireturn, 1) := by decide +kernel
theorem dX9_conference_77 : decode cX9_conference 77 = .ok (.aload_n 0, 1) := by decide +kernel
theorem dX9_conference_78 : decode cX9_conference 78 = .ok (.dup, 1) := by decide +kernel
theorem dX9_conference_79 : decode cX9_conference 79 = .ok (.getfield 193, 3) := by decide +kernel
theorem dX9_conference_82 : decode cX9_conference 82 = .ok (.iconst 1, 1) := by decide +kernel
theorem dX9_conference_83 : decode cX9_conference 83 = .ok (.iadd, 1) := by decide +kernel
theorem dX9_conference_84 : decode cX9_conference 84 = .ok (.putfield 193, 3) := by decide +kernel
theorem dX9_conference_87 : decode cX9_conference 87 = .ok (.aload_n 0, 1) := by decide +kernel
theorem dX9_conference_88 : decode cX9_conference 88 = .ok (.getfield 47, 3) := by decide +kernel
theorem dX9_conference_91 : decode cX9_conference 91 = .ok (.aload_n 0, 1) := by decide +kernel
theorem dX9_conference_92 : decode cX9_conference 92 = .ok (.getfield 193, 3) := by decide +kernel
theorem dX9_conference_95 : decode cX9_conference 95 = .ok (.iload_n 1, 1) := by decide +kernel
theorem dX9_conference_96 : decode cX9_conference 96 = .ok (.iastore, 1) := by decide +kernel
theorem dX9_conference_97 : decode cX9_conference 97 = .ok (.aload_n 0, 1) := by decide +kernel
theorem dX9_conference_98 : decode cX9_conference 98 = .ok (.getfield 50, 3) := by decide +kernel
theorem dX9_conference_101 : decode cX9_conference 101 = .ok (.aload_n 0, 1) := by decide +kernel
theorem dX9_conference_102 : decode cX9_conference 102 = .ok (.getfield 193, 3) := by decide +kernel
theorem dX9_conference_105 : decode cX9_conference 105 = .ok (.iload_n 2, 1) := by decide +kernel
theorem dX9_conference_106 : decode cX9_conference 106 = .ok (.iastore, 1) := by decide +kernel
theorem dX9_conference_107 : decode cX9_conference 107 = .ok (.aload_n 0, 1) := by decide +kernel
theorem dX9_conference_108 : decode cX9_conference 108 = .ok (.getfield 53, 3) := by decide +kernel
theorem dX9_conference_111 : decode cX9_conference 111 = .ok (.aload_n 0, 1) := by decide +kernel
theorem dX9_conference_112 : decode cX9_conference 112 = .ok (.getfield 193, 3) := by decide +kernel
theorem dX9_conference_115 : decode cX9_conference 115 = .ok (.iload_n 3, 1) := by decide +kernel
theorem dX9_conference_116 : decode cX9_conference 116 = .ok (.iastore, 1) := by decide +kernel
theorem dX9_conference_117 : decode cX9_conference 117 = .ok (.aload_n 0, 1) := by decide +kernel
theorem dX9_conference_118 : decode cX9_conference 118 = .ok (.getfield 56, 3) := by decide +kernel
theorem dX9_conference_121 : decode cX9_conference 121 = .ok (.aload_n 0, 1) := by decide +kernel
theorem dX9_conference_122 : decode cX9_conference 122 = .ok (.getfield 193, 3) := by decide +kernel
theorem dX9_conference_125 : decode cX9_conference 125 = .ok (.iload 4, 2) := by decide +kernel
theorem dX9_conference_127 : decode cX9_conference 127 = .ok (.iastore, 1) := by decide +kernel
theorem dX9_conference_128 : decode cX9_conference 128 = .ok (.aload_n 0, 1) := by decide +kernel
theorem dX9_conference_129 : decode cX9_conference 129 = .ok (.getfield 193, 3) := by decide +kernel
theorem dX9_conference_132 : decode cX9_conference 132 = .ok (.ireturn, 1) := by decide +kernel
theorem dX9_rulesAt_0 : decode cX9_rulesAt 0 = .ok (.iconst 0, 1) := by decide +kernel
theorem dX9_rulesAt_1 : decode cX9_rulesAt 1 = .ok (.istore_n 2, 1) := by decide +kernel
theorem dX9_rulesAt_2 : decode cX9_rulesAt 2 = .ok (.iconst 1, 1) := by decide +kernel
theorem dX9_rulesAt_3 : decode cX9_rulesAt 3 = .ok (.istore_n 3, 1) := by decide +kernel
theorem dX9_rulesAt_4 : decode cX9_rulesAt 4 = .ok (.iload_n 3, 1) := by decide +kernel
theorem dX9_rulesAt_5 : decode cX9_rulesAt 5 = .ok (.aload_n 0, 1) := by decide +kernel
theorem dX9_rulesAt_6 : decode cX9_rulesAt 6 = .ok (.getfield 193, 3) := by decide +kernel
theorem dX9_rulesAt_9 : decode cX9_rulesAt 9 = .ok (.if_icmp .gt 45, 3) := by decide +kernel
theorem dX9_rulesAt_12 : decode cX9_rulesAt 12 = .ok (.aload_n 0, 1) := by decide +kernel
theorem dX9_rulesAt_13 : decode cX9_rulesAt 13 = .ok (.getfield 47, 3) := by decide +kernel
theorem dX9_rulesAt_16 : decode cX9_rulesAt 16 = .ok (.iload_n 3, 1) := by decide +kernel
theorem dX9_rulesAt_17 : decode cX9_rulesAt 17 = .ok (.iaload, 1) := by decide +kernel
theorem dX9_rulesAt_18 : decode cX9_rulesAt 18 = .ok (.aload_n 0, 1) := by decide +kernel
theorem dX9_rulesAt_19 : decode cX9_rulesAt 19 = .ok (.getfield 196, 3) := by decide +kernel
theorem dX9_rulesAt_22 : decode cX9_rulesAt 22 = .ok (.sipush 1440, 3) := by decide +kernel
theorem dX9_rulesAt_25 : decode cX9_rulesAt 25 = .ok (.idiv, 1) := by decide +kernel
theorem dX9_rulesAt_26 : decode cX9_rulesAt 26 = .ok (.if_icmp .gt 20, 3) := by decide +kernel
theorem dX9_rulesAt_29 : decode cX9_rulesAt 29 = .ok (.aload_n 0, 1) := by decide +kernel
theorem dX9_rulesAt_30 : decode cX9_rulesAt 30 = .ok (.getfield 26, 3) := by decide +kernel
theorem dX9_rulesAt_33 : decode cX9_rulesAt 33 = .ok (.iload_n 1, 1) := by decide +kernel
theorem dX9_rulesAt_34 : decode cX9_rulesAt 34 = .ok (.iaload, 1) := by decide +kernel
theorem dX9_rulesAt_35 : decode cX9_rulesAt 35 = .ok (.iload_n 3, 1) := by decide +kernel
theorem dX9_rulesAt_36 : decode cX9_rulesAt 36 = .ok (.ishr, 1) := by decide +kernel
theorem dX9_rulesAt_37 : decode cX9_rulesAt 37 = .ok (.iconst 1, 1) := by decide +kernel
theorem dX9_rulesAt_38 : decode cX9_rulesAt 38 = .ok (.iand, 1) := by decide +kernel
theorem dX9_rulesAt_39 : decode cX9_rulesAt 39 = .ok (.ifCond .ne 7, 3) := by decide +kernel
theorem dX9_rulesAt_42 : decode cX9_rulesAt 42 = .ok (.iload_n 3, 1) := by decide +kernel
theorem dX9_rulesAt_43 : decode cX9_rulesAt 43 = .ok (.goto 4, 3) := by decide +kernel
theorem dX9_rulesAt_46 : decode cX9_rulesAt 46 = .ok (.iload_n 2, 1) := by decide +kernel
theorem dX9_rulesAt_47 : decode cX9_rulesAt 47 = .ok (.istore_n 2, 1) := by decide +kernel
theorem dX9_rulesAt_48 : decode cX9_rulesAt 48 = .ok (.iinc 3 1, 3) := by decide +kernel
theorem dX9_rulesAt_51 : decode cX9_rulesAt 51 = .ok (.goto (-47), 3) := by decide +kernel
theorem dX9_rulesAt_54 : decode cX9_rulesAt 54 = .ok (.iload_n 2, 1) := by decide +kernel
theorem dX9_rulesAt_55 : decode cX9_rulesAt 55 = .ok (.ireturn, 1) := by decide +kernel
theorem dX9_reserve_0 : decode cX9_reserve 0 = .ok (.aload_n 0, 1) := by decide +kernel
theorem dX9_reserve_1 : decode cX9_reserve 1 = .ok (.aload_n 0, 1) := by decide +kernel
theorem dX9_reserve_2 : decode cX9_reserve 2 = .ok (.iload_n 1, 1) := by decide +kernel
theorem dX9_reserve_3 : decode cX9_reserve 3 = .ok (.invokevirtual 184, 3) := by decide +kernel
theorem dX9_reserve_6 : decode cX9_reserve 6 = .ok (.ifCond .eq 19, 3) := by decide +kernel
theorem dX9_reserve_9 : decode cX9_reserve 9 = .ok (.iload_n 2, 1) := by decide +kernel
theorem dX9_reserve_10 : decode cX9_reserve 10 = .ok (.iconst 1, 1) := by decide +kernel
theorem dX9_reserve_11 : decode cX9_reserve 11 = .ok (.aload_n 0, 1) := by decide +kernel
theorem dX9_reserve_12 : decode cX9_reserve 12 = .ok (.getfield 193, 3) := by decide +kernel
theorem dX9_reserve_15 : decode cX9_reserve 15 = .ok (.invokestatic 129, 3) := by decide +kernel
theorem dX9_reserve_18 : decode cX9_reserve 18 = .ok (.ifCond .eq 7, 3) := by decide +kernel
theorem dX9_reserve_21 : decode cX9_reserve 21 = .ok (.iconst 1, 1) := by decide +kernel
theorem dX9_reserve_22 : decode cX9_reserve 22 = .ok (.goto 4, 3) := by decide +kernel
theorem dX9_reserve_25 : decode cX9_reserve 25 = .ok (.iconst 0, 1) := by decide +kernel
theorem dX9_reserve_26 : decode cX9_reserve 26 = .ok (.invokevirtual 150, 3) := by decide +kernel
theorem dX9_reserve_29 : decode cX9_reserve 29 = .ok (.ifCond .ne 5, 3) := by decide +kernel
theorem dX9_reserve_32 : decode cX9_reserve 32 = .ok (.iconst 0, 1) := by decide +kernel
theorem dX9_reserve_33 : decode cX9_reserve 33 = .ok (.ireturn, 1) := by decide +kernel
theorem dX9_reserve_34 : decode cX9_reserve 34 = .ok (.aload_n 0, 1) := by decide +kernel
theorem dX9_reserve_35 : decode cX9_reserve 35 = .ok (.getfield 26, 3) := by decide +kernel
theorem dX9_reserve_38 : decode cX9_reserve 38 = .ok (.iload_n 1, 1) := by decide +kernel
theorem dX9_reserve_39 : decode cX9_reserve 39 = .ok (.dup2, 1) := by decide +kernel
theorem dX9_reserve_40 : decode cX9_reserve 40 = .ok (.iaload, 1) := by decide +kernel
theorem dX9_reserve_41 : decode cX9_reserve 41 = .ok (.iconst 1, 1) := by decide +kernel
theorem dX9_reserve_42 : decode cX9_reserve 42 = .ok (.iload_n 2, 1) := by decide +kernel
theorem dX9_reserve_43 : decode cX9_reserve 43 = .ok (.ishl, 1) := by decide +kernel
theorem dX9_reserve_44 : decode cX9_reserve 44 = .ok (.ior, 1) := by decide +kernel
theorem dX9_reserve_45 : decode cX9_reserve 45 = .ok (.iastore, 1) := by decide +kernel
theorem dX9_reserve_46 : decode cX9_reserve 46 = .ok (.aload_n 0, 1) := by decide +kernel
theorem dX9_reserve_47 : decode cX9_reserve 47 = .ok (.iload_n 1, 1) := by decide +kernel
theorem dX9_reserve_48 : decode cX9_reserve 48 = .ok (.invokevirtual 199, 3) := by decide +kernel
theorem dX9_reserve_51 : decode cX9_reserve 51 = .ok (.ireturn, 1) := by decide +kernel
theorem dX9_up_0 : decode cX9_up 0 = .ok (.iload_n 0, 1) := by decide +kernel
theorem dX9_up_1 : decode cX9_up 1 = .ok (.iload_n 1, 1) := by decide +kernel
theorem dX9_up_2 : decode cX9_up 2 = .ok (.iadd, 1) := by decide +kernel
theorem dX9_up_3 : decode cX9_up 3 = .ok (.iconst 1, 1) := by decide +kernel
theorem dX9_up_4 : decode cX9_up 4 = .ok (.isub, 1) := by decide +kernel
theorem dX9_up_5 : decode cX9_up 5 = .ok (.iload_n 1, 1) := by decide +kernel
theorem dX9_up_6 : decode cX9_up 6 = .ok (.idiv, 1) := by decide +kernel
theorem dX9_up_7 : decode cX9_up 7 = .ok (.ireturn, 1) := by decide +kernel
theorem dX9_sentAs_0 : decode cX9_sentAs 0 = .ok (.aload_n 0, 1) := by decide +kernel
theorem dX9_sentAs_1 : decode cX9_sentAs 1 = .ok (.getfield 13, 3) := by decide +kernel
theorem dX9_sentAs_4 : decode cX9_sentAs 4 = .ok (.iload_n 1, 1) := by decide +kernel
theorem dX9_sentAs_5 : decode cX9_sentAs 5 = .ok (.aload_n 0, 1) := by decide +kernel
theorem dX9_sentAs_6 : decode cX9_sentAs 6 = .ok (.getfield 23, 3) := by decide +kernel
theorem dX9_sentAs_9 : decode cX9_sentAs 9 = .ok (.iload_n 2, 1) := by decide +kernel
theorem dX9_sentAs_10 : decode cX9_sentAs 10 = .ok (.iaload, 1) := by decide +kernel
theorem dX9_sentAs_11 : decode cX9_sentAs 11 = .ok (.iadd, 1) := by decide +kernel
theorem dX9_sentAs_12 : decode cX9_sentAs 12 = .ok (.aload_n 0, 1) := by decide +kernel
theorem dX9_sentAs_13 : decode cX9_sentAs 13 = .ok (.getfield 168, 3) := by decide +kernel
theorem dX9_sentAs_16 : decode cX9_sentAs 16 = .ok (.irem, 1) := by decide +kernel
theorem dX9_sentAs_17 : decode cX9_sentAs 17 = .ok (.iaload, 1) := by decide +kernel
theorem dX9_sentAs_18 : decode cX9_sentAs 18 = .ok (.ireturn, 1) := by decide +kernel
theorem dX9_entryAt_0 : decode cX9_entryAt 0 = .ok (.iconst (-1), 1) := by decide +kernel
theorem dX9_entryAt_1 : decode cX9_entryAt 1 = .ok (.istore 4, 2) := by decide +kernel
theorem dX9_entryAt_3 : decode cX9_entryAt 3 = .ok (.iconst 0, 1) := by decide +kernel
theorem dX9_entryAt_4 : decode cX9_entryAt 4 = .ok (.istore 5, 2) := by decide +kernel
theorem dX9_entryAt_6 : decode cX9_entryAt 6 = .ok (.iload 5, 2) := by decide +kernel
theorem dX9_entryAt_8 : decode cX9_entryAt 8 = .ok (.aload_n 0, 1) := by decide +kernel
theorem dX9_entryAt_9 : decode cX9_entryAt 9 = .ok (.getfield 168, 3) := by decide +kernel
theorem dX9_entryAt_12 : decode cX9_entryAt 12 = .ok (.if_icmp .ge 124, 3) := by decide +kernel
theorem dX9_entryAt_15 : decode cX9_entryAt 15 = .ok (.iload_n 1, 1) := by decide +kernel
theorem dX9_entryAt_16 : decode cX9_entryAt 16 = .ok (.iload_n 2, 1) := by decide +kernel
theorem dX9_entryAt_17 : decode cX9_entryAt 17 = .ok (.iadd, 1) := by decide +kernel
theorem dX9_entryAt_18 : decode cX9_entryAt 18 = .ok (.aload_n 0, 1) := by decide +kernel
theorem dX9_entryAt_19 : decode cX9_entryAt 19 = .ok (.getfield 202, 3) := by decide +kernel
theorem dX9_entryAt_22 : decode cX9_entryAt 22 = .ok (.if_icmp .gt 7, 3) := by decide +kernel
theorem dX9_entryAt_25 : decode cX9_entryAt 25 = .ok (.iconst 1, 1) := by decide +kernel
theorem dX9_entryAt_26 : decode cX9_entryAt 26 = .ok (.goto 4, 3) := by decide +kernel
theorem dX9_entryAt_29 : decode cX9_entryAt 29 = .ok (.iconst 0, 1) := by decide +kernel
theorem dX9_entryAt_30 : decode cX9_entryAt 30 = .ok (.istore 6, 2) := by decide +kernel
theorem dX9_entryAt_32 : decode cX9_entryAt 32 = .ok (.iconst 0, 1) := by decide +kernel
theorem dX9_entryAt_33 : decode cX9_entryAt 33 = .ok (.istore 7, 2) := by decide +kernel
theorem dX9_entryAt_35 : decode cX9_entryAt 35 = .ok (.iload 7, 2) := by decide +kernel
theorem dX9_entryAt_37 : decode cX9_entryAt 37 = .ok (.iconst 4, 1) := by decide +kernel
theorem dX9_entryAt_38 : decode cX9_entryAt 38 = .ok (.if_icmp .ge 55, 3) := by decide +kernel
theorem dX9_entryAt_41 : decode cX9_entryAt 41 = .ok (.iload 6, 2) := by decide +kernel
theorem dX9_entryAt_43 : decode cX9_entryAt 43 = .ok (.ifCond .eq 50, 3) := by decide +kernel
theorem dX9_entryAt_46 : decode cX9_entryAt 46 = .ok (.aload_n 0, 1) := by decide +kernel
theorem dX9_entryAt_47 : decode cX9_entryAt 47 = .ok (.getfield 16, 3) := by decide +kernel
theorem dX9_entryAt_50 : decode cX9_entryAt 50 = .ok (.iconst 4, 1) := by decide +kernel
theorem dX9_entryAt_51 : decode cX9_entryAt 51 = .ok (.iload 5, 2) := by decide +kernel
theorem dX9_entryAt_53 : decode cX9_entryAt 53 = .ok (.imul, 1) := by decide +kernel
theorem dX9_entryAt_54 : decode cX9_entryAt 54 = .ok (.iload 7, 2) := by decide +kernel
theorem dX9_entryAt_56 : decode cX9_entryAt 56 = .ok (.iadd, 1) := by decide +kernel
theorem dX9_entryAt_57 : decode cX9_entryAt 57 = .ok (.iaload, 1) := by decide +kernel
theorem dX9_entryAt_58 : decode cX9_entryAt 58 = .ok (.iload 7, 2) := by decide +kernel
theorem dX9_entryAt_60 : decode cX9_entryAt 60 = .ok (.iload_n 2, 1) := by decide +kernel
theorem dX9_entryAt_61 : decode cX9_entryAt 61 = .ok (.if_icmp .ge 15, 3) := by decide +kernel
theorem dX9_entryAt_64 : decode cX9_entryAt 64 = .ok (.aload_n 0, 1) := by decide +kernel
theorem dX9_entryAt_65 : decode cX9_entryAt 65 = .ok (.getfield 59, 3) := by decide +kernel
theorem dX9_entryAt_68 : decode cX9_entryAt 68 = .ok (.iload_n 1, 1) := by decide +kernel
theorem dX9_entryAt_69 : decode cX9_entryAt 69 = .ok (.iload 7, 2) := by decide +kernel
theorem dX9_entryAt_71 : decode cX9_entryAt 71 = .ok (.iadd, 1) := by decide +kernel
theorem dX9_entryAt_72 : decode cX9_entryAt 72 = .ok (.iaload, 1) := by decide +kernel
theorem dX9_entryAt_73 : decode cX9_entryAt 73 = .ok (.goto 4, 3) := by decide +kernel
theorem dX9_entryAt_76 : decode cX9_entryAt 76 = .ok (.iconst (-1), 1) := by decide +kernel
theorem dX9_entryAt_77 : decode cX9_entryAt 77 = .ok (.if_icmp .ne 7, 3) := by decide +kernel
theorem dX9_entryAt_80 : decode cX9_entryAt 80 = .ok (.iconst 1, 1) := by decide +kernel
theorem dX9_entryAt_81 : decode cX9_entryAt 81 = .ok (.goto 4, 3) := by decide +kernel
theorem dX9_entryAt_84 : decode cX9_entryAt 84 = .ok (.iconst 0, 1) := by decide +kernel
theorem dX9_entryAt_85 : decode cX9_entryAt 85 = .ok (.istore 6, 2) := by decide +kernel
theorem dX9_entryAt_87 : decode cX9_entryAt 87 = .ok (.iinc 7 1, 3) := by decide +kernel
theorem dX9_entryAt_90 : decode cX9_entryAt 90 = .ok (.goto (-55), 3) := by decide +kernel
theorem dX9_entryAt_93 : decode cX9_entryAt 93 = .ok (.iload 6, 2) := by decide +kernel
theorem dX9_entryAt_95 : decode cX9_entryAt 95 = .ok (.ifCond .eq 31, 3) := by decide +kernel
theorem dX9_entryAt_98 : decode cX9_entryAt 98 = .ok (.aload_n 0, 1) := by decide +kernel
theorem dX9_entryAt_99 : decode cX9_entryAt 99 = .ok (.iload 5, 2) := by decide +kernel
theorem dX9_entryAt_101 : decode cX9_entryAt 101 = .ok (.iload_n 3, 1) := by decide +kernel
theorem dX9_entryAt_102 : decode cX9_entryAt 102 = .ok (.invokevirtual 205, 3) := by decide +kernel
theorem dX9_entryAt_105 : decode cX9_entryAt 105 = .ok (.invokestatic 208, 3) := by decide +kernel
theorem dX9_entryAt_108 : decode cX9_entryAt 108 = .ok (.aload_n 0, 1) := by decide +kernel
theorem dX9_entryAt_109 : decode cX9_entryAt 109 = .ok (.getfield 56, 3) := by decide +kernel
theorem dX9_entryAt_112 : decode cX9_entryAt 112 = .ok (.aload_n 0, 1) := by decide +kernel
theorem dX9_entryAt_113 : decode cX9_entryAt 113 = .ok (.iload_n 3, 1) := by decide +kernel
theorem dX9_entryAt_114 : decode cX9_entryAt 114 = .ok (.invokevirtual 199, 3) := by decide +kernel
theorem dX9_entryAt_117 : decode cX9_entryAt 117 = .ok (.iaload, 1) := by decide +kernel
theorem dX9_entryAt_118 : decode cX9_entryAt 118 = .ok (.if_icmp .lt 8, 3) := by decide +kernel
theorem dX9_entryAt_121 : decode cX9_entryAt 121 = .ok (.iload 5, 2) := by decide +kernel
theorem dX9_entryAt_123 : decode cX9_entryAt 123 = .ok (.goto 5, 3) := by decide +kernel
theorem dX9_entryAt_126 : decode cX9_entryAt 126 = .ok (.iload 4, 2) := by decide +kernel
theorem dX9_entryAt_128 : decode cX9_entryAt 128 = .ok (.istore 4, 2) := by decide +kernel
theorem dX9_entryAt_130 : decode cX9_entryAt 130 = .ok (.iinc 5 1, 3) := by decide +kernel
theorem dX9_entryAt_133 : decode cX9_entryAt 133 = .ok (.goto (-127), 3) := by decide +kernel
theorem dX9_entryAt_136 : decode cX9_entryAt 136 = .ok (.iload 4, 2) := by decide +kernel
theorem dX9_entryAt_138 : decode cX9_entryAt 138 = .ok (.ireturn, 1) := by decide +kernel
theorem dX9_plainAt_0 : decode cX9_plainAt 0 = .ok (.aload_n 0, 1) := by decide +kernel
theorem dX9_plainAt_1 : decode cX9_plainAt 1 = .ok (.getfield 7, 3) := by decide +kernel
theorem dX9_plainAt_4 : decode cX9_plainAt 4 = .ok (.aload_n 0, 1) := by decide +kernel
theorem dX9_plainAt_5 : decode cX9_plainAt 5 = .ok (.getfield 59, 3) := by decide +kernel
theorem dX9_plainAt_8 : decode cX9_plainAt 8 = .ok (.iload_n 1, 1) := by decide +kernel
theorem dX9_plainAt_9 : decode cX9_plainAt 9 = .ok (.iaload, 1) := by decide +kernel
theorem dX9_plainAt_10 : decode cX9_plainAt 10 = .ok (.iaload, 1) := by decide +kernel
theorem dX9_plainAt_11 : decode cX9_plainAt 11 = .ok (.iload_n 2, 1) := by decide +kernel
theorem dX9_plainAt_12 : decode cX9_plainAt 12 = .ok (.invokestatic 211, 3) := by decide +kernel
theorem dX9_plainAt_15 : decode cX9_plainAt 15 = .ok (.ireturn, 1) := by decide +kernel
theorem dX9_allPlain_0 : decode cX9_allPlain 0 = .ok (.iconst 0, 1) := by decide +kernel
theorem dX9_allPlain_1 : decode cX9_allPlain 1 = .ok (.istore_n 2, 1) := by decide +kernel
theorem dX9_allPlain_2 : decode cX9_allPlain 2 = .ok (.iconst 0, 1) := by decide +kernel
theorem dX9_allPlain_3 : decode cX9_allPlain 3 = .ok (.istore_n 3, 1) := by decide +kernel
theorem dX9_allPlain_4 : decode cX9_allPlain 4 = .ok (.iload_n 3, 1) := by decide +kernel
theorem dX9_allPlain_5 : decode cX9_allPlain 5 = .ok (.aload_n 0, 1) := by decide +kernel
theorem dX9_allPlain_6 : decode cX9_allPlain 6 = .ok (.getfield 202, 3) := by decide +kernel
theorem dX9_allPlain_9 : decode cX9_allPlain 9 = .ok (.if_icmp .ge 18, 3) := by decide +kernel
theorem dX9_allPlain_12 : decode cX9_allPlain 12 = .ok (.iload_n 2, 1) := by decide +kernel
theorem dX9_allPlain_13 : decode cX9_allPlain 13 = .ok (.aload_n 0, 1) := by decide +kernel
theorem dX9_allPlain_14 : decode cX9_allPlain 14 = .ok (.iload_n 3, 1) := by decide +kernel
theorem dX9_allPlain_15 : decode cX9_allPlain 15 = .ok (.iload_n 1, 1) := by decide +kernel
theorem dX9_allPlain_16 : decode cX9_allPlain 16 = .ok (.invokevirtual 214, 3) := by decide +kernel
theorem dX9_allPlain_19 : decode cX9_allPlain 19 = .ok (.iadd, 1) := by decide +kernel
theorem dX9_allPlain_20 : decode cX9_allPlain 20 = .ok (.istore_n 2, 1) := by decide +kernel
theorem dX9_allPlain_21 : decode cX9_allPlain 21 = .ok (.iinc 3 1, 3) := by decide +kernel
theorem dX9_allPlain_24 : decode cX9_allPlain 24 = .ok (.goto (-20), 3) := by decide +kernel
theorem dX9_allPlain_27 : decode cX9_allPlain 27 = .ok (.iload_n 2, 1) := by decide +kernel
theorem dX9_allPlain_28 : decode cX9_allPlain 28 = .ok (.ireturn, 1) := by decide +kernel
theorem dX9_reckons_0 : decode cX9_reckons 0 = .ok (.aload_n 0, 1) := by decide +kernel
theorem dX9_reckons_1 : decode cX9_reckons 1 = .ok (.getfield 53, 3) := by decide +kernel
theorem dX9_reckons_4 : decode cX9_reckons 4 = .ok (.aload_n 0, 1) := by decide +kernel
theorem dX9_reckons_5 : decode cX9_reckons 5 = .ok (.iload_n 1, 1) := by decide +kernel
theorem dX9_reckons_6 : decode cX9_reckons 6 = .ok (.invokevirtual 199, 3) := by decide +kernel
theorem dX9_reckons_9 : decode cX9_reckons 9 = .ok (.iaload, 1) := by decide +kernel
theorem dX9_reckons_10 : decode cX9_reckons 10 = .ok (.istore_n 2, 1) := by decide +kernel
theorem dX9_reckons_11 : decode cX9_reckons 11 = .ok (.aload_n 0, 1) := by decide +kernel
theorem dX9_reckons_12 : decode cX9_reckons 12 = .ok (.getfield 202, 3) := by decide +kernel
theorem dX9_reckons_15 : decode cX9_reckons 15 = .ok (.istore_n 3, 1) := by decide +kernel
theorem dX9_reckons_16 : decode cX9_reckons 16 = .ok (.iload_n 3, 1) := by decide +kernel
theorem dX9_reckons_17 : decode cX9_reckons 17 = .ok (.ifCond .lt 176, 3) := by decide +kernel
theorem dX9_reckons_20 : decode cX9_reckons 20 = .ok (.iconst 0, 1) := by decide +kernel
theorem dX9_reckons_21 : decode cX9_reckons 21 = .ok (.istore 4, 2) := by decide +kernel
theorem dX9_reckons_23 : decode cX9_reckons 23 = .ok (.iload 4, 2) := by decide +kernel
theorem dX9_reckons_25 : decode cX9_reckons 25 = .ok (.bipush 25, 2) := by decide +kernel
theorem dX9_reckons_27 : decode cX9_reckons 27 = .ok (.if_icmp .ge 160, 3) := by decide +kernel
theorem dX9_reckons_30 : decode cX9_reckons 30 = .ok (.iload_n 3, 1) := by decide +kernel
theorem dX9_reckons_31 : decode cX9_reckons 31 = .ok (.aload_n 0, 1) := by decide +kernel
theorem dX9_reckons_32 : decode cX9_reckons 32 = .ok (.getfield 202, 3) := by decide +kernel
theorem dX9_reckons_35 : decode cX9_reckons 35 = .ok (.if_icmp .ne 17, 3) := by decide +kernel
theorem dX9_reckons_38 : decode cX9_reckons 38 = .ok (.iload 4, 2) := by decide +kernel
theorem dX9_reckons_40 : decode cX9_reckons 40 = .ok (.ifCond .ne 7, 3) := by decide +kernel
theorem dX9_reckons_43 : decode cX9_reckons 43 = .ok (.iconst 0, 1) := by decide +kernel
theorem dX9_reckons_44 : decode cX9_reckons 44 = .ok (.goto 29, 3) := by decide +kernel
theorem dX9_reckons_47 : decode cX9_reckons 47 = .ok (.ldc 217, 2) := by decide +kernel
theorem dX9_reckons_49 : decode cX9_reckons 49 = .ok (.goto 24, 3) := by decide +kernel
theorem dX9_reckons_52 : decode cX9_reckons 52 = .ok (.aload_n 0, 1) := by decide +kernel
theorem dX9_reckons_53 : decode cX9_reckons 53 = .ok (.iload_n 3, 1) := by decide +kernel
theorem dX9_reckons_54 : decode cX9_reckons 54 = .ok (.iload_n 2, 1) := by decide +kernel
theorem dX9_reckons_55 : decode cX9_reckons 55 = .ok (.invokevirtual 214, 3) := by decide +kernel
theorem dX9_reckons_58 : decode cX9_reckons 58 = .ok (.aload_n 0, 1) := by decide +kernel
theorem dX9_reckons_59 : decode cX9_reckons 59 = .ok (.getfield 62, 3) := by decide +kernel
theorem dX9_reckons_62 : decode cX9_reckons 62 = .ok (.bipush 25, 2) := by decide +kernel
theorem dX9_reckons_64 : decode cX9_reckons 64 = .ok (.iload_n 3, 1) := by decide +kernel
theorem dX9_reckons_65 : decode cX9_reckons 65 = .ok (.iconst 1, 1) := by decide +kernel
theorem dX9_reckons_66 : decode cX9_reckons 66 = .ok (.iadd, 1) := by decide +kernel
theorem dX9_reckons_67 : decode cX9_reckons 67 = .ok (.imul, 1) := by decide +kernel
theorem dX9_reckons_68 : decode cX9_reckons 68 = .ok (.iload 4, 2) := by decide +kernel
theorem dX9_reckons_70 : decode cX9_reckons 70 = .ok (.iadd, 1) := by decide +kernel
theorem dX9_reckons_71 : decode cX9_reckons 71 = .ok (.iaload, 1) := by decide +kernel
theorem dX9_reckons_72 : decode cX9_reckons 72 = .ok (.iadd, 1) := by decide +kernel
theorem dX9_reckons_73 : decode cX9_reckons 73 = .ok (.istore 5, 2) := by decide +kernel
theorem dX9_reckons_75 : decode cX9_reckons 75 = .ok (.iconst 1, 1) := by decide +kernel
theorem dX9_reckons_76 : decode cX9_reckons 76 = .ok (.istore 6, 2) := by decide +kernel
theorem dX9_reckons_78 : decode cX9_reckons 78 = .ok (.iload 6, 2) := by decide +kernel
theorem dX9_reckons_80 : decode cX9_reckons 80 = .ok (.iconst 5, 1) := by decide +kernel
theorem dX9_reckons_81 : decode cX9_reckons 81 = .ok (.if_icmp .ge 74, 3) := by decide +kernel
theorem dX9_reckons_84 : decode cX9_reckons 84 = .ok (.iload_n 3, 1) := by decide +kernel
theorem dX9_reckons_85 : decode cX9_reckons 85 = .ok (.aload_n 0, 1) := by decide +kernel
theorem dX9_reckons_86 : decode cX9_reckons 86 = .ok (.getfield 202, 3) := by decide +kernel
theorem dX9_reckons_89 : decode cX9_reckons 89 = .ok (.if_icmp .ge 66, 3) := by decide +kernel
theorem dX9_reckons_92 : decode cX9_reckons 92 = .ok (.iload 4, 2) := by decide +kernel
theorem dX9_reckons_94 : decode cX9_reckons 94 = .ok (.ifCond .le 61, 3) := by decide +kernel
theorem dX9_reckons_97 : decode cX9_reckons 97 = .ok (.aload_n 0, 1) := by decide +kernel
theorem dX9_reckons_98 : decode cX9_reckons 98 = .ok (.iload_n 3, 1) := by decide +kernel
theorem dX9_reckons_99 : decode cX9_reckons 99 = .ok (.iload 6, 2) := by decide +kernel
theorem dX9_reckons_101 : decode cX9_reckons 101 = .ok (.iload_n 1, 1) := by decide +kernel
theorem dX9_reckons_102 : decode cX9_reckons 102 = .ok (.invokevirtual 218, 3) := by decide +kernel
theorem dX9_reckons_105 : decode cX9_reckons 105 = .ok (.iconst (-1), 1) := by decide +kernel
theorem dX9_reckons_106 : decode cX9_reckons 106 = .ok (.if_icmp .ne 8, 3) := by decide +kernel
theorem dX9_reckons_109 : decode cX9_reckons 109 = .ok (.ldc 217, 2) := by decide +kernel
theorem dX9_reckons_111 : decode cX9_reckons 111 = .ok (.goto 20, 3) := by decide +kernel
theorem dX9_reckons_114 : decode cX9_reckons 114 = .ok (.aload_n 0, 1) := by decide +kernel
theorem dX9_reckons_115 : decode cX9_reckons 115 = .ok (.getfield 62, 3) := by decide +kernel
theorem dX9_reckons_118 : decode cX9_reckons 118 = .ok (.bipush 25, 2) := by decide +kernel
theorem dX9_reckons_120 : decode cX9_reckons 120 = .ok (.iload_n 3, 1) := by decide +kernel
theorem dX9_reckons_121 : decode cX9_reckons 121 = .ok (.iload 6, 2) := by decide +kernel
theorem dX9_reckons_123 : decode cX9_reckons 123 = .ok (.iadd, 1) := by decide +kernel
theorem dX9_reckons_124 : decode cX9_reckons 124 = .ok (.imul, 1) := by decide +kernel
theorem dX9_reckons_125 : decode cX9_reckons 125 = .ok (.iload 4, 2) := by decide +kernel
theorem dX9_reckons_127 : decode cX9_reckons 127 = .ok (.iadd, 1) := by decide +kernel
theorem dX9_reckons_128 : decode cX9_reckons 128 = .ok (.iconst 1, 1) := by decide +kernel
theorem dX9_reckons_129 : decode cX9_reckons 129 = .ok (.isub, 1) := by decide +kernel
theorem dX9_reckons_130 : decode cX9_reckons 130 = .ok (.iaload, 1) := by decide +kernel
theorem dX9_reckons_131 : decode cX9_reckons 131 = .ok (.istore 7, 2) := by decide +kernel
theorem dX9_reckons_133 : decode cX9_reckons 133 = .ok (.iload 7, 2) := by decide +kernel
theorem dX9_reckons_135 : decode cX9_reckons 135 = .ok (.iload 5, 2) := by decide +kernel
theorem dX9_reckons_137 : decode cX9_reckons 137 = .ok (.if_icmp .ge 8, 3) := by decide +kernel
theorem dX9_reckons_140 : decode cX9_reckons 140 = .ok (.iload 7, 2) := by decide +kernel
theorem dX9_reckons_142 : decode cX9_reckons 142 = .ok (.goto 5, 3) := by decide +kernel
theorem dX9_reckons_145 : decode cX9_reckons 145 = .ok (.iload 5, 2) := by decide +kernel
theorem dX9_reckons_147 : decode cX9_reckons 147 = .ok (.istore 5, 2) := by decide +kernel
theorem dX9_reckons_149 : decode cX9_reckons 149 = .ok (.iinc 6 1, 3) := by decide +kernel
theorem dX9_reckons_152 : decode cX9_reckons 152 = .ok (.goto (-74), 3) := by decide +kernel
theorem dX9_reckons_155 : decode cX9_reckons 155 = .ok (.aload_n 0, 1) := by decide +kernel
theorem dX9_reckons_156 : decode cX9_reckons 156 = .ok (.getfield 62, 3) := by decide +kernel
theorem dX9_reckons_159 : decode cX9_reckons 159 = .ok (.bipush 25, 2) := by decide +kernel
theorem dX9_reckons_161 : decode cX9_reckons 161 = .ok (.iload_n 3, 1) := by decide +kernel
theorem dX9_reckons_162 : decode cX9_reckons 162 = .ok (.imul, 1) := by decide +kernel
theorem dX9_reckons_163 : decode cX9_reckons 163 = .ok (.iload 4, 2) := by decide +kernel
theorem dX9_reckons_165 : decode cX9_reckons 165 = .ok (.iadd, 1) := by decide +kernel
theorem dX9_reckons_166 : decode cX9_reckons 166 = .ok (.iload 5, 2) := by decide +kernel
theorem dX9_reckons_168 : decode cX9_reckons 168 = .ok (.ldc 217, 2) := by decide +kernel
theorem dX9_reckons_170 : decode cX9_reckons 170 = .ok (.if_icmp .le 8, 3) := by decide +kernel
theorem dX9_reckons_173 : decode cX9_reckons 173 = .ok (.ldc 217, 2) := by decide +kernel
theorem dX9_reckons_175 : decode cX9_reckons 175 = .ok (.goto 5, 3) := by decide +kernel
theorem dX9_reckons_178 : decode cX9_reckons 178 = .ok (.iload 5, 2) := by decide +kernel
theorem dX9_reckons_180 : decode cX9_reckons 180 = .ok (.iastore, 1) := by decide +kernel
theorem dX9_reckons_181 : decode cX9_reckons 181 = .ok (.iinc 4 1, 3) := by decide +kernel
theorem dX9_reckons_184 : decode cX9_reckons 184 = .ok (.goto (-161), 3) := by decide +kernel
theorem dX9_reckons_187 : decode cX9_reckons 187 = .ok (.iinc 3 (-1), 3) := by decide +kernel
theorem dX9_reckons_190 : decode cX9_reckons 190 = .ok (.goto (-174), 3) := by decide +kernel
theorem dX9_reckons_193 : decode cX9_reckons 193 = .ok (.return_, 1) := by decide +kernel
theorem dX9_cuts_0 : decode cX9_cuts 0 = .ok (.aload_n 0, 1) := by decide +kernel
theorem dX9_cuts_1 : decode cX9_cuts 1 = .ok (.getfield 53, 3) := by decide +kernel
theorem dX9_cuts_4 : decode cX9_cuts 4 = .ok (.aload_n 0, 1) := by decide +kernel
theorem dX9_cuts_5 : decode cX9_cuts 5 = .ok (.iload_n 1, 1) := by decide +kernel
theorem dX9_cuts_6 : decode cX9_cuts 6 = .ok (.invokevirtual 199, 3) := by decide +kernel
theorem dX9_cuts_9 : decode cX9_cuts 9 = .ok (.iaload, 1) := by decide +kernel
theorem dX9_cuts_10 : decode cX9_cuts 10 = .ok (.istore_n 3, 1) := by decide +kernel
theorem dX9_cuts_11 : decode cX9_cuts 11 = .ok (.iconst 0, 1) := by decide +kernel
theorem dX9_cuts_12 : decode cX9_cuts 12 = .ok (.istore 4, 2) := by decide +kernel
theorem dX9_cuts_14 : decode cX9_cuts 14 = .ok (.iload_n 2, 1) := by decide +kernel
theorem dX9_cuts_15 : decode cX9_cuts 15 = .ok (.istore 5, 2) := by decide +kernel
theorem dX9_cuts_17 : decode cX9_cuts 17 = .ok (.aload_n 0, 1) := by decide +kernel
theorem dX9_cuts_18 : decode cX9_cuts 18 = .ok (.iconst 0, 1) := by decide +kernel
theorem dX9_cuts_19 : decode cX9_cuts 19 = .ok (.putfield 222, 3) := by decide +kernel
theorem dX9_cuts_22 : decode cX9_cuts 22 = .ok (.iload 4, 2) := by decide +kernel
theorem dX9_cuts_24 : decode cX9_cuts 24 = .ok (.aload_n 0, 1) := by decide +kernel
theorem dX9_cuts_25 : decode cX9_cuts 25 = .ok (.getfield 202, 3) := by decide +kernel
theorem dX9_cuts_28 : decode cX9_cuts 28 = .ok (.if_icmp .ge 178, 3) := by decide +kernel
theorem dX9_cuts_31 : decode cX9_cuts 31 = .ok (.iconst 0, 1) := by decide +kernel
theorem dX9_cuts_32 : decode cX9_cuts 32 = .ok (.istore 6, 2) := by decide +kernel
theorem dX9_cuts_34 : decode cX9_cuts 34 = .ok (.iconst 4, 1) := by decide +kernel
theorem dX9_cuts_35 : decode cX9_cuts 35 = .ok (.istore 7, 2) := by decide +kernel
theorem dX9_cuts_37 : decode cX9_cuts 37 = .ok (.iload 7, 2) := by decide +kernel
theorem dX9_cuts_39 : decode cX9_cuts 39 = .ok (.ifCond .le 86, 3) := by decide +kernel
theorem dX9_cuts_42 : decode cX9_cuts 42 = .ok (.iload 6, 2) := by decide +kernel
theorem dX9_cuts_44 : decode cX9_cuts 44 = .ok (.ifCond .ne 81, 3) := by decide +kernel
theorem dX9_cuts_47 : decode cX9_cuts 47 = .ok (.iload 5, 2) := by decide +kernel
theorem dX9_cuts_49 : decode cX9_cuts 49 = .ok (.ifCond .le 76, 3) := by decide +kernel
theorem dX9_cuts_52 : decode cX9_cuts 52 = .ok (.aload_n 0, 1) := by decide +kernel
theorem dX9_cuts_53 : decode cX9_cuts 53 = .ok (.iload 4, 2) := by decide +kernel
theorem dX9_cuts_55 : decode cX9_cuts 55 = .ok (.iload 7, 2) := by decide +kernel
theorem dX9_cuts_57 : decode cX9_cuts 57 = .ok (.iload_n 1, 1) := by decide +kernel
theorem dX9_cuts_58 : decode cX9_cuts 58 = .ok (.invokevirtual 218, 3) := by decide +kernel
theorem dX9_cuts_61 : decode cX9_cuts 61 = .ok (.iconst (-1), 1) := by decide +kernel
theorem dX9_cuts_62 : decode cX9_cuts 62 = .ok (.if_icmp .eq 41, 3) := by decide +kernel
theorem dX9_cuts_65 : decode cX9_cuts 65 = .ok (.aload_n 0, 1) := by decide +kernel
theorem dX9_cuts_66 : decode cX9_cuts 66 = .ok (.getfield 62, 3) := by decide +kernel
theorem dX9_cuts_69 : decode cX9_cuts 69 = .ok (.bipush 25, 2) := by decide +kernel
theorem dX9_cuts_71 : decode cX9_cuts 71 = .ok (.iload 4, 2) := by decide +kernel
theorem dX9_cuts_73 : decode cX9_cuts 73 = .ok (.iload 7, 2) := by decide +kernel
theorem dX9_cuts_75 : decode cX9_cuts 75 = .ok (.iadd, 1) := by decide +kernel
theorem dX9_cuts_76 : decode cX9_cuts 76 = .ok (.imul, 1) := by decide +kernel
theorem dX9_cuts_77 : decode cX9_cuts 77 = .ok (.iload 5, 2) := by decide +kernel
theorem dX9_cuts_79 : decode cX9_cuts 79 = .ok (.iadd, 1) := by decide +kernel
theorem dX9_cuts_80 : decode cX9_cuts 80 = .ok (.iconst 1, 1) := by decide +kernel
theorem dX9_cuts_81 : decode cX9_cuts 81 = .ok (.isub, 1) := by decide +kernel
theorem dX9_cuts_82 : decode cX9_cuts 82 = .ok (.iaload, 1) := by decide +kernel
theorem dX9_cuts_83 : decode cX9_cuts 83 = .ok (.aload_n 0, 1) := by decide +kernel
theorem dX9_cuts_84 : decode cX9_cuts 84 = .ok (.getfield 62, 3) := by decide +kernel
theorem dX9_cuts_87 : decode cX9_cuts 87 = .ok (.bipush 25, 2) := by decide +kernel
theorem dX9_cuts_89 : decode cX9_cuts 89 = .ok (.iload 4, 2) := by decide +kernel
theorem dX9_cuts_91 : decode cX9_cuts 91 = .ok (.imul, 1) := by decide +kernel
theorem dX9_cuts_92 : decode cX9_cuts 92 = .ok (.iload 5, 2) := by decide +kernel
theorem dX9_cuts_94 : decode cX9_cuts 94 = .ok (.iadd, 1) := by decide +kernel
theorem dX9_cuts_95 : decode cX9_cuts 95 = .ok (.iaload, 1) := by decide +kernel
theorem dX9_cuts_96 : decode cX9_cuts 96 = .ok (.if_icmp .ne 7, 3) := by decide +kernel
theorem dX9_cuts_99 : decode cX9_cuts 99 = .ok (.iconst 1, 1) := by decide +kernel
theorem dX9_cuts_100 : decode cX9_cuts 100 = .ok (.goto 4, 3) := by decide +kernel
theorem dX9_cuts_103 : decode cX9_cuts 103 = .ok (.iconst 0, 1) := by decide +kernel
theorem dX9_cuts_104 : decode cX9_cuts 104 = .ok (.istore 8, 2) := by decide +kernel
theorem dX9_cuts_106 : decode cX9_cuts 106 = .ok (.iload 8, 2) := by decide +kernel
theorem dX9_cuts_108 : decode cX9_cuts 108 = .ok (.ifCond .eq 8, 3) := by decide +kernel
theorem dX9_cuts_111 : decode cX9_cuts 111 = .ok (.iload 7, 2) := by decide +kernel
theorem dX9_cuts_113 : decode cX9_cuts 113 = .ok (.goto 4, 3) := by decide +kernel
theorem dX9_cuts_116 : decode cX9_cuts 116 = .ok (.iconst 0, 1) := by decide +kernel
theorem dX9_cuts_117 : decode cX9_cuts 117 = .ok (.istore 6, 2) := by decide +kernel
theorem dX9_cuts_119 : decode cX9_cuts 119 = .ok (.iinc 7 (-1), 3) := by decide +kernel
theorem dX9_cuts_122 : decode cX9_cuts 122 = .ok (.goto (-85), 3) := by decide +kernel
theorem dX9_cuts_125 : decode cX9_cuts 125 = .ok (.aload_n 0, 1) := by decide +kernel
theorem dX9_cuts_126 : decode cX9_cuts 126 = .ok (.getfield 65, 3) := by decide +kernel
theorem dX9_cuts_129 : decode cX9_cuts 129 = .ok (.aload_n 0, 1) := by decide +kernel
theorem dX9_cuts_130 : decode cX9_cuts 130 = .ok (.getfield 222, 3) := by decide +kernel
theorem dX9_cuts_133 : decode cX9_cuts 133 = .ok (.iload 6, 2) := by decide +kernel
theorem dX9_cuts_135 : decode cX9_cuts 135 = .ok (.ifCond .le 15, 3) := by decide +kernel
theorem dX9_cuts_138 : decode cX9_cuts 138 = .ok (.aload_n 0, 1) := by decide +kernel
theorem dX9_cuts_139 : decode cX9_cuts 139 = .ok (.iload 4, 2) := by decide +kernel
theorem dX9_cuts_141 : decode cX9_cuts 141 = .ok (.iload 6, 2) := by decide +kernel
theorem dX9_cuts_143 : decode cX9_cuts 143 = .ok (.iload_n 1, 1) := by decide +kernel
theorem dX9_cuts_144 : decode cX9_cuts 144 = .ok (.invokevirtual 218, 3) := by decide +kernel
theorem dX9_cuts_147 : decode cX9_cuts 147 = .ok (.goto 14, 3) := by decide +kernel
theorem dX9_cuts_150 : decode cX9_cuts 150 = .ok (.iconst (-1), 1) := by decide +kernel
theorem dX9_cuts_151 : decode cX9_cuts 151 = .ok (.aload_n 0, 1) := by decide +kernel
theorem dX9_cuts_152 : decode cX9_cuts 152 = .ok (.getfield 59, 3) := by decide +kernel
theorem dX9_cuts_155 : decode cX9_cuts 155 = .ok (.iload 4, 2) := by decide +kernel
theorem dX9_cuts_157 : decode cX9_cuts 157 = .ok (.iaload, 1) := by decide +kernel
theorem dX9_cuts_158 : decode cX9_cuts 158 = .ok (.isub, 1) := by decide +kernel
theorem dX9_cuts_159 : decode cX9_cuts 159 = .ok (.iconst 1, 1) := by decide +kernel
theorem dX9_cuts_160 : decode cX9_cuts 160 = .ok (.isub, 1) := by decide +kernel
theorem dX9_cuts_161 : decode cX9_cuts 161 = .ok (.iastore, 1) := by decide +kernel
theorem dX9_cuts_162 : decode cX9_cuts 162 = .ok (.iload 5, 2) := by decide +kernel
theorem dX9_cuts_164 : decode cX9_cuts 164 = .ok (.iload 6, 2) := by decide +kernel
theorem dX9_cuts_166 : decode cX9_cuts 166 = .ok (.ifCond .le 7, 3) := by decide +kernel
theorem dX9_cuts_169 : decode cX9_cuts 169 = .ok (.iconst 1, 1) := by decide +kernel
theorem dX9_cuts_170 : decode cX9_cuts 170 = .ok (.goto 4, 3) := by decide +kernel
theorem dX9_cuts_173 : decode cX9_cuts 173 = .ok (.iconst 0, 1) := by decide +kernel
theorem dX9_cuts_174 : decode cX9_cuts 174 = .ok (.isub, 1) := by decide +kernel
theorem dX9_cuts_175 : decode cX9_cuts 175 = .ok (.istore 5, 2) := by decide +kernel
theorem dX9_cuts_177 : decode cX9_cuts 177 = .ok (.iload 4, 2) := by decide +kernel
theorem dX9_cuts_179 : decode cX9_cuts 179 = .ok (.iload 6, 2) := by decide +kernel
theorem dX9_cuts_181 : decode cX9_cuts 181 = .ok (.ifCond .le 8, 3) := by decide +kernel
theorem dX9_cuts_184 : decode cX9_cuts 184 = .ok (.iload 6, 2) := by decide +kernel
theorem dX9_cuts_186 : decode cX9_cuts 186 = .ok (.goto 4, 3) := by decide +kernel
theorem dX9_cuts_189 : decode cX9_cuts 189 = .ok (.iconst 1, 1) := by decide +kernel
theorem dX9_cuts_190 : decode cX9_cuts 190 = .ok (.iadd, 1) := by decide +kernel
theorem dX9_cuts_191 : decode cX9_cuts 191 = .ok (.istore 4, 2) := by decide +kernel
theorem dX9_cuts_193 : decode cX9_cuts 193 = .ok (.aload_n 0, 1) := by decide +kernel
theorem dX9_cuts_194 : decode cX9_cuts 194 = .ok (.dup, 1) := by decide +kernel
theorem dX9_cuts_195 : decode cX9_cuts 195 = .ok (.getfield 222, 3) := by decide +kernel
theorem dX9_cuts_198 : decode cX9_cuts 198 = .ok (.iconst 1, 1) := by decide +kernel
theorem dX9_cuts_199 : decode cX9_cuts 199 = .ok (.iadd, 1) := by decide +kernel
theorem dX9_cuts_200 : decode cX9_cuts 200 = .ok (.putfield 222, 3) := by decide +kernel
theorem dX9_cuts_203 : decode cX9_cuts 203 = .ok (.goto (-181), 3) := by decide +kernel
theorem dX9_cuts_206 : decode cX9_cuts 206 = .ok (.return_, 1) := by decide +kernel
theorem dX9_packs_0 : decode cX9_packs 0 = .ok (.aload_n 0, 1) := by decide +kernel
theorem dX9_packs_1 : decode cX9_packs 1 = .ok (.iload_n 1, 1) := by decide +kernel
theorem dX9_packs_2 : decode cX9_packs 2 = .ok (.invokevirtual 199, 3) := by decide +kernel
theorem dX9_packs_5 : decode cX9_packs 5 = .ok (.istore_n 3, 1) := by decide +kernel
theorem dX9_packs_6 : decode cX9_packs 6 = .ok (.aload_n 0, 1) := by decide +kernel
theorem dX9_packs_7 : decode cX9_packs 7 = .ok (.aload_n 0, 1) := by decide +kernel
theorem dX9_packs_8 : decode cX9_packs 8 = .ok (.aload_n 0, 1) := by decide +kernel
theorem dX9_packs_9 : decode cX9_packs 9 = .ok (.getfield 50, 3) := by decide +kernel
theorem dX9_packs_12 : decode cX9_packs 12 = .ok (.iload_n 3, 1) := by decide +kernel
theorem dX9_packs_13 : decode cX9_packs 13 = .ok (.iaload, 1) := by decide +kernel
theorem dX9_packs_14 : decode cX9_packs 14 = .ok (.invokevirtual 225, 3) := by decide +kernel
theorem dX9_packs_17 : decode cX9_packs 17 = .ok (.putfield 228, 3) := by decide +kernel
theorem dX9_packs_20 : decode cX9_packs 20 = .ok (.iconst 0, 1) := by decide +kernel
theorem dX9_packs_21 : decode cX9_packs 21 = .ok (.istore 4, 2) := by decide +kernel
theorem dX9_packs_23 : decode cX9_packs 23 = .ok (.iload_n 2, 1) := by decide +kernel
theorem dX9_packs_24 : decode cX9_packs 24 = .ok (.ifCond .eq 111, 3) := by decide +kernel
theorem dX9_packs_27 : decode cX9_packs 27 = .ok (.aload_n 0, 1) := by decide +kernel
theorem dX9_packs_28 : decode cX9_packs 28 = .ok (.getfield 168, 3) := by decide +kernel
theorem dX9_packs_31 : decode cX9_packs 31 = .ok (.ifCond .le 104, 3) := by decide +kernel
theorem dX9_packs_34 : decode cX9_packs 34 = .ok (.aload_n 0, 1) := by decide +kernel
theorem dX9_packs_35 : decode cX9_packs 35 = .ok (.iload_n 1, 1) := by decide +kernel
theorem dX9_packs_36 : decode cX9_packs 36 = .ok (.invokevirtual 231, 3) := by decide +kernel
theorem dX9_packs_39 : decode cX9_packs 39 = .ok (.iconst 1, 1) := by decide +kernel
theorem dX9_packs_40 : decode cX9_packs 40 = .ok (.istore 5, 2) := by decide +kernel
theorem dX9_packs_42 : decode cX9_packs 42 = .ok (.iload 5, 2) := by decide +kernel
theorem dX9_packs_44 : decode cX9_packs 44 = .ok (.bipush 25, 2) := by decide +kernel
theorem dX9_packs_46 : decode cX9_packs 46 = .ok (.if_icmp .ge 89, 3) := by decide +kernel
theorem dX9_packs_49 : decode cX9_packs 49 = .ok (.aload_n 0, 1) := by decide +kernel
theorem dX9_packs_50 : decode cX9_packs 50 = .ok (.getfield 62, 3) := by decide +kernel
theorem dX9_packs_53 : decode cX9_packs 53 = .ok (.iload 5, 2) := by decide +kernel
theorem dX9_packs_55 : decode cX9_packs 55 = .ok (.iaload, 1) := by decide +kernel
theorem dX9_packs_56 : decode cX9_packs 56 = .ok (.ldc 217, 2) := by decide +kernel
theorem dX9_packs_58 : decode cX9_packs 58 = .ok (.if_icmp .lt 8, 3) := by decide +kernel
theorem dX9_packs_61 : decode cX9_packs 61 = .ok (.ldc 217, 2) := by decide +kernel
theorem dX9_packs_63 : decode cX9_packs 63 = .ok (.goto 24, 3) := by decide +kernel
theorem dX9_packs_66 : decode cX9_packs 66 = .ok (.aload_n 0, 1) := by decide +kernel
theorem dX9_packs_67 : decode cX9_packs 67 = .ok (.getfield 62, 3) := by decide +kernel
theorem dX9_packs_70 : decode cX9_packs 70 = .ok (.iload 5, 2) := by decide +kernel
theorem dX9_packs_72 : decode cX9_packs 72 = .ok (.iaload, 1) := by decide +kernel
theorem dX9_packs_73 : decode cX9_packs 73 = .ok (.iconst 5, 1) := by decide +kernel
theorem dX9_packs_74 : decode cX9_packs 74 = .ok (.iload 5, 2) := by decide +kernel
theorem dX9_packs_76 : decode cX9_packs 76 = .ok (.imul, 1) := by decide +kernel
theorem dX9_packs_77 : decode cX9_packs 77 = .ok (.aload_n 0, 1) := by decide +kernel
theorem dX9_packs_78 : decode cX9_packs 78 = .ok (.getfield 53, 3) := by decide +kernel
theorem dX9_packs_81 : decode cX9_packs 81 = .ok (.iload_n 3, 1) := by decide +kernel
theorem dX9_packs_82 : decode cX9_packs 82 = .ok (.iaload, 1) := by decide +kernel
theorem dX9_packs_83 : decode cX9_packs 83 = .ok (.invokestatic 211, 3) := by decide +kernel
theorem dX9_packs_86 : decode cX9_packs 86 = .ok (.iadd, 1) := by decide +kernel
theorem dX9_packs_87 : decode cX9_packs 87 = .ok (.istore 6, 2) := by decide +kernel
theorem dX9_packs_89 : decode cX9_packs 89 = .ok (.iload 6, 2) := by decide +kernel
theorem dX9_packs_91 : decode cX9_packs 91 = .ok (.aload_n 0, 1) := by decide +kernel
theorem dX9_packs_92 : decode cX9_packs 92 = .ok (.getfield 228, 3) := by decide +kernel
theorem dX9_packs_95 : decode cX9_packs 95 = .ok (.if_icmp .ge 8, 3) := by decide +kernel
theorem dX9_packs_98 : decode cX9_packs 98 = .ok (.iload 5, 2) := by decide +kernel
theorem dX9_packs_100 : decode cX9_packs 100 = .ok (.goto 5, 3) := by decide +kernel
theorem dX9_packs_103 : decode cX9_packs 103 = .ok (.iload 4, 2) := by decide +kernel
theorem dX9_packs_105 : decode cX9_packs 105 = .ok (.istore 4, 2) := by decide +kernel
theorem dX9_packs_107 : decode cX9_packs 107 = .ok (.aload_n 0, 1) := by decide +kernel
theorem dX9_packs_108 : decode cX9_packs 108 = .ok (.iload 6, 2) := by decide +kernel
theorem dX9_packs_110 : decode cX9_packs 110 = .ok (.aload_n 0, 1) := by decide +kernel
theorem dX9_packs_111 : decode cX9_packs 111 = .ok (.getfield 228, 3) := by decide +kernel
theorem dX9_packs_114 : decode cX9_packs 114 = .ok (.if_icmp .ge 8, 3) := by decide +kernel
theorem dX9_packs_117 : decode cX9_packs 117 = .ok (.iload 6, 2) := by decide +kernel
theorem dX9_packs_119 : decode cX9_packs 119 = .ok (.goto 7, 3) := by decide +kernel
theorem dX9_packs_122 : decode cX9_packs 122 = .ok (.aload_n 0, 1) := by decide +kernel
theorem dX9_packs_123 : decode cX9_packs 123 = .ok (.getfield 228, 3) := by decide +kernel
theorem dX9_packs_126 : decode cX9_packs 126 = .ok (.putfield 228, 3) := by decide +kernel
theorem dX9_packs_129 : decode cX9_packs 129 = .ok (.iinc 5 1, 3) := by decide +kernel
theorem dX9_packs_132 : decode cX9_packs 132 = .ok (.goto (-90), 3) := by decide +kernel
theorem dX9_packs_135 : decode cX9_packs 135 = .ok (.aload_n 0, 1) := by decide +kernel
theorem dX9_packs_136 : decode cX9_packs 136 = .ok (.iload_n 1, 1) := by decide +kernel
theorem dX9_packs_137 : decode cX9_packs 137 = .ok (.iload 4, 2) := by decide +kernel
theorem dX9_packs_139 : decode cX9_packs 139 = .ok (.invokevirtual 235, 3) := by decide +kernel
theorem dX9_packs_142 : decode cX9_packs 142 = .ok (.return_, 1) := by decide +kernel
theorem dX9_draft_0 : decode cX9_draft 0 = .ok (.aload_n 0, 1) := by decide +kernel
theorem dX9_draft_1 : decode cX9_draft 1 = .ok (.aload_n 0, 1) := by decide +kernel
theorem dX9_draft_2 : decode cX9_draft 2 = .ok (.iload_n 1, 1) := by decide +kernel
theorem dX9_draft_3 : decode cX9_draft 3 = .ok (.invokevirtual 158, 3) := by decide +kernel
theorem dX9_draft_6 : decode cX9_draft 6 = .ok (.invokevirtual 150, 3) := by decide +kernel
theorem dX9_draft_9 : decode cX9_draft 9 = .ok (.ifCond .ne 5, 3) := by decide +kernel
theorem dX9_draft_12 : decode cX9_draft 12 = .ok (.iconst 0, 1) := by decide +kernel
theorem dX9_draft_13 : decode cX9_draft 13 = .ok (.ireturn, 1) := by decide +kernel
theorem dX9_draft_14 : decode cX9_draft 14 = .ok (.aload_n 0, 1) := by decide +kernel
theorem dX9_draft_15 : decode cX9_draft 15 = .ok (.getfield 202, 3) := by decide +kernel
theorem dX9_draft_18 : decode cX9_draft 18 = .ok (.bipush 24, 2) := by decide +kernel
theorem dX9_draft_20 : decode cX9_draft 20 = .ok (.if_icmp .ne 9, 3) := by decide +kernel
theorem dX9_draft_23 : decode cX9_draft 23 = .ok (.aload_n 0, 1) := by decide +kernel
theorem dX9_draft_24 : decode cX9_draft 24 = .ok (.iconst 2, 1) := by decide +kernel
theorem dX9_draft_25 : decode cX9_draft 25 = .ok (.invokevirtual 154, 3) := by decide +kernel
theorem dX9_draft_28 : decode cX9_draft 28 = .ok (.ireturn, 1) := by decide +kernel
theorem dX9_draft_29 : decode cX9_draft 29 = .ok (.aload_n 0, 1) := by decide +kernel
theorem dX9_draft_30 : decode cX9_draft 30 = .ok (.getfield 59, 3) := by decide +kernel
theorem dX9_draft_33 : decode cX9_draft 33 = .ok (.aload_n 0, 1) := by decide +kernel
theorem dX9_draft_34 : decode cX9_draft 34 = .ok (.getfield 202, 3) := by decide +kernel
theorem dX9_draft_37 : decode cX9_draft 37 = .ok (.iload_n 1, 1) := by decide +kernel
theorem dX9_draft_38 : decode cX9_draft 38 = .ok (.iastore, 1) := by decide +kernel
theorem dX9_draft_39 : decode cX9_draft 39 = .ok (.aload_n 0, 1) := by decide +kernel
theorem dX9_draft_40 : decode cX9_draft 40 = .ok (.dup, 1) := by decide +kernel
theorem dX9_draft_41 : decode cX9_draft 41 = .ok (.getfield 202, 3) := by decide +kernel
theorem dX9_draft_44 : decode cX9_draft 44 = .ok (.iconst 1, 1) := by decide +kernel
theorem dX9_draft_45 : decode cX9_draft 45 = .ok (.iadd, 1) := by decide +kernel
theorem dX9_draft_46 : decode cX9_draft 46 = .ok (.putfield 202, 3) := by decide +kernel
theorem dX9_draft_49 : decode cX9_draft 49 = .ok (.aload_n 0, 1) := by decide +kernel
theorem dX9_draft_50 : decode cX9_draft 50 = .ok (.getfield 202, 3) := by decide +kernel
theorem dX9_draft_53 : decode cX9_draft 53 = .ok (.ireturn, 1) := by decide +kernel
theorem dX9_words_0 : decode cX9_words 0 = .ok (.aload_n 0, 1) := by decide +kernel
theorem dX9_words_1 : decode cX9_words 1 = .ok (.aload_n 0, 1) := by decide +kernel
theorem dX9_words_2 : decode cX9_words 2 = .ok (.iload_n 1, 1) := by decide +kernel
theorem dX9_words_3 : decode cX9_words 3 = .ok (.invokevirtual 184, 3) := by decide +kernel
theorem dX9_words_6 : decode cX9_words 6 = .ok (.invokevirtual 150, 3) := by decide +kernel
theorem dX9_words_9 : decode cX9_words 9 = .ok (.ifCond .ne 5, 3) := by decide +kernel
theorem dX9_words_12 : decode cX9_words 12 = .ok (.iconst 0, 1) := by decide +kernel
theorem dX9_words_13 : decode cX9_words 13 = .ok (.ireturn, 1) := by decide +kernel
theorem dX9_words_14 : decode cX9_words 14 = .ok (.aload_n 0, 1) := by decide +kernel
theorem dX9_words_15 : decode cX9_words 15 = .ok (.iload_n 1, 1) := by decide +kernel
theorem dX9_words_16 : decode cX9_words 16 = .ok (.iload_n 2, 1) := by decide +kernel
theorem dX9_words_17 : decode cX9_words 17 = .ok (.invokevirtual 238, 3) := by decide +kernel
theorem dX9_words_20 : decode cX9_words 20 = .ok (.aload_n 0, 1) := by decide +kernel
theorem dX9_words_21 : decode cX9_words 21 = .ok (.getfield 228, 3) := by decide +kernel
theorem dX9_words_24 : decode cX9_words 24 = .ok (.ireturn, 1) := by decide +kernel
theorem dX9_end_0 : decode cX9_end 0 = .ok (.aload_n 0, 1) := by decide +kernel
theorem dX9_end_1 : decode cX9_end 1 = .ok (.getfield 32, 3) := by decide +kernel
theorem dX9_end_4 : decode cX9_end 4 = .ok (.iload_n 1, 1) := by decide +kernel
theorem dX9_end_5 : decode cX9_end 5 = .ok (.iaload, 1) := by decide +kernel
theorem dX9_end_6 : decode cX9_end 6 = .ok (.iload_n 2, 1) := by decide +kernel
theorem dX9_end_7 : decode cX9_end 7 = .ok (.if_icmp .ne 12, 3) := by decide +kernel
theorem dX9_end_10 : decode cX9_end 10 = .ok (.aload_n 0, 1) := by decide +kernel
theorem dX9_end_11 : decode cX9_end 11 = .ok (.getfield 35, 3) := by decide +kernel
theorem dX9_end_14 : decode cX9_end 14 = .ok (.iload_n 1, 1) := by decide +kernel
theorem dX9_end_15 : decode cX9_end 15 = .ok (.iaload, 1) := by decide +kernel
theorem dX9_end_16 : decode cX9_end 16 = .ok (.goto 23, 3) := by decide +kernel
theorem dX9_end_19 : decode cX9_end 19 = .ok (.aload_n 0, 1) := by decide +kernel
theorem dX9_end_20 : decode cX9_end 20 = .ok (.getfield 35, 3) := by decide +kernel
theorem dX9_end_23 : decode cX9_end 23 = .ok (.iload_n 1, 1) := by decide +kernel
theorem dX9_end_24 : decode cX9_end 24 = .ok (.iaload, 1) := by decide +kernel
theorem dX9_end_25 : decode cX9_end 25 = .ok (.iload_n 2, 1) := by decide +kernel
theorem dX9_end_26 : decode cX9_end 26 = .ok (.if_icmp .ne 12, 3) := by decide +kernel
theorem dX9_end_29 : decode cX9_end 29 = .ok (.aload_n 0, 1) := by decide +kernel
theorem dX9_end_30 : decode cX9_end 30 = .ok (.getfield 32, 3) := by decide +kernel
theorem dX9_end_33 : decode cX9_end 33 = .ok (.iload_n 1, 1) := by decide +kernel
theorem dX9_end_34 : decode cX9_end 34 = .ok (.iaload, 1) := by decide +kernel
theorem dX9_end_35 : decode cX9_end 35 = .ok (.goto 4, 3) := by decide +kernel
theorem dX9_end_38 : decode cX9_end 38 = .ok (.iconst (-1), 1) := by decide +kernel
theorem dX9_end_39 : decode cX9_end 39 = .ok (.ireturn, 1) := by decide +kernel
theorem dX9_reaches_0 : decode cX9_reaches 0 = .ok (.iconst 0, 1) := by decide +kernel
theorem dX9_reaches_1 : decode cX9_reaches 1 = .ok (.istore_n 2, 1) := by decide +kernel
theorem dX9_reaches_2 : decode cX9_reaches 2 = .ok (.iload_n 2, 1) := by decide +kernel
theorem dX9_reaches_3 : decode cX9_reaches 3 = .ok (.bipush 8, 2) := by decide +kernel
theorem dX9_reaches_5 : decode cX9_reaches 5 = .ok (.if_icmp .ge 26, 3) := by decide +kernel
theorem dX9_reaches_8 : decode cX9_reaches 8 = .ok (.aload_n 0, 1) := by decide +kernel
theorem dX9_reaches_9 : decode cX9_reaches 9 = .ok (.getfield 116, 3) := by decide +kernel
theorem dX9_reaches_12 : decode cX9_reaches 12 = .ok (.iload_n 2, 1) := by decide +kernel
theorem dX9_reaches_13 : decode cX9_reaches 13 = .ok (.iload_n 2, 1) := by decide +kernel
theorem dX9_reaches_14 : decode cX9_reaches 14 = .ok (.iload_n 1, 1) := by decide +kernel
theorem dX9_reaches_15 : decode cX9_reaches 15 = .ok (.if_icmp .ne 7, 3) := by decide +kernel
theorem dX9_reaches_18 : decode cX9_reaches 18 = .ok (.iconst 0, 1) := by decide +kernel
theorem dX9_reaches_19 : decode cX9_reaches 19 = .ok (.goto 5, 3) := by decide +kernel
theorem dX9_reaches_22 : decode cX9_reaches 22 = .ok (.ldc 217, 2) := by decide +kernel
theorem dX9_reaches_24 : decode cX9_reaches 24 = .ok (.iastore, 1) := by decide +kernel
theorem dX9_reaches_25 : decode cX9_reaches 25 = .ok (.iinc 2 1, 3) := by decide +kernel
theorem dX9_reaches_28 : decode cX9_reaches 28 = .ok (.goto (-26), 3) := by decide +kernel
theorem dX9_reaches_31 : decode cX9_reaches 31 = .ok (.iconst 0, 1) := by decide +kernel
theorem dX9_reaches_32 : decode cX9_reaches 32 = .ok (.istore_n 2, 1) := by decide +kernel
theorem dX9_reaches_33 : decode cX9_reaches 33 = .ok (.iload_n 2, 1) := by decide +kernel
theorem dX9_reaches_34 : decode cX9_reaches 34 = .ok (.bipush 8, 2) := by decide +kernel
theorem dX9_reaches_36 : decode cX9_reaches 36 = .ok (.if_icmp .ge 162, 3) := by decide +kernel
theorem dX9_reaches_39 : decode cX9_reaches 39 = .ok (.iconst 0, 1) := by decide +kernel
theorem dX9_reaches_40 : decode cX9_reaches 40 = .ok (.istore_n 3, 1) := by decide +kernel
theorem dX9_reaches_41 : decode cX9_reaches 41 = .ok (.iload_n 3, 1) := by decide +kernel
theorem dX9_reaches_42 : decode cX9_reaches 42 = .ok (.aload_n 0, 1) := by decide +kernel
theorem dX9_reaches_43 : decode cX9_reaches 43 = .ok (.getfield 136, 3) := by decide +kernel
theorem dX9_reaches_46 : decode cX9_reaches 46 = .ok (.if_icmp .ge 146, 3) := by decide +kernel
theorem dX9_reaches_49 : decode cX9_reaches 49 = .ok (.aload_n 0, 1) := by decide +kernel
theorem dX9_reaches_50 : decode cX9_reaches 50 = .ok (.getfield 32, 3) := by decide +kernel
theorem dX9_reaches_53 : decode cX9_reaches 53 = .ok (.iload_n 3, 1) := by decide +kernel
theorem dX9_reaches_54 : decode cX9_reaches 54 = .ok (.iaload, 1) := by decide +kernel
theorem dX9_reaches_55 : decode cX9_reaches 55 = .ok (.istore 4, 2) := by decide +kernel
theorem dX9_reaches_57 : decode cX9_reaches 57 = .ok (.aload_n 0, 1) := by decide +kernel
theorem dX9_reaches_58 : decode cX9_reaches 58 = .ok (.getfield 35, 3) := by decide +kernel
theorem dX9_reaches_61 : decode cX9_reaches 61 = .ok (.iload_n 3, 1) := by decide +kernel
theorem dX9_reaches_62 : decode cX9_reaches 62 = .ok (.iaload, 1) := by decide +kernel
theorem dX9_reaches_63 : decode cX9_reaches 63 = .ok (.istore 5, 2) := by decide +kernel
theorem dX9_reaches_65 : decode cX9_reaches 65 = .ok (.aload_n 0, 1) := by decide +kernel
theorem dX9_reaches_66 : decode cX9_reaches 66 = .ok (.getfield 44, 3) := by decide +kernel
theorem dX9_reaches_69 : decode cX9_reaches 69 = .ok (.iload_n 3, 1) := by decide +kernel
theorem dX9_reaches_70 : decode cX9_reaches 70 = .ok (.baload, 1) := by decide +kernel
theorem dX9_reaches_71 : decode cX9_reaches 71 = .ok (.ifCond .eq 8, 3) := by decide +kernel
theorem dX9_reaches_74 : decode cX9_reaches 74 = .ok (.ldc 217, 2) := by decide +kernel
theorem dX9_reaches_76 : decode cX9_reaches 76 = .ok (.goto 14, 3) := by decide +kernel
theorem dX9_reaches_79 : decode cX9_reaches 79 = .ok (.bipush 16, 2) := by decide +kernel
theorem dX9_reaches_81 : decode cX9_reaches 81 = .ok (.aload_n 0, 1) := by decide +kernel
theorem dX9_reaches_82 : decode cX9_reaches 82 = .ok (.getfield 38, 3) := by decide +kernel
theorem dX9_reaches_85 : decode cX9_reaches 85 = .ok (.iload_n 3, 1) := by decide +kernel
theorem dX9_reaches_86 : decode cX9_reaches 86 = .ok (.iaload, 1) := by decide +kernel
theorem dX9_reaches_87 : decode cX9_reaches 87 = .ok (.imul, 1) := by decide +kernel
theorem dX9_reaches_88 : decode cX9_reaches 88 = .ok (.iconst 1, 1) := by decide +kernel
theorem dX9_reaches_89 : decode cX9_reaches 89 = .ok (.iadd, 1) := by decide +kernel
theorem dX9_reaches_90 : decode cX9_reaches 90 = .ok (.istore 6, 2) := by decide +kernel
theorem dX9_reaches_92 : decode cX9_reaches 92 = .ok (.aload_n 0, 1) := by decide +kernel
theorem dX9_reaches_93 : decode cX9_reaches 93 = .ok (.getfield 116, 3) := by decide +kernel
theorem dX9_reaches_96 : decode cX9_reaches 96 = .ok (.iload 4, 2) := by decide +kernel
theorem dX9_reaches_98 : decode cX9_reaches 98 = .ok (.aload_n 0, 1) := by decide +kernel
theorem dX9_reaches_99 : decode cX9_reaches 99 = .ok (.getfield 116, 3) := by decide +kernel
theorem dX9_reaches_102 : decode cX9_reaches 102 = .ok (.iload 5, 2) := by decide +kernel
theorem dX9_reaches_104 : decode cX9_reaches 104 = .ok (.iaload, 1) := by decide +kernel
theorem dX9_reaches_105 : decode cX9_reaches 105 = .ok (.iload 6, 2) := by decide +kernel
theorem dX9_reaches_107 : decode cX9_reaches 107 = .ok (.iadd, 1) := by decide +kernel
theorem dX9_reaches_108 : decode cX9_reaches 108 = .ok (.aload_n 0, 1) := by decide +kernel
theorem dX9_reaches_109 : decode cX9_reaches 109 = .ok (.getfield 116, 3) := by decide +kernel
theorem dX9_reaches_112 : decode cX9_reaches 112 = .ok (.iload 4, 2) := by decide +kernel
theorem dX9_reaches_114 : decode cX9_reaches 114 = .ok (.iaload, 1) := by decide +kernel
theorem dX9_reaches_115 : decode cX9_reaches 115 = .ok (.if_icmp .ge 16, 3) := by decide +kernel
theorem dX9_reaches_118 : decode cX9_reaches 118 = .ok (.aload_n 0, 1) := by decide +kernel
theorem dX9_reaches_119 : decode cX9_reaches 119 = .ok (.getfield 116, 3) := by decide +kernel
theorem dX9_reaches_122 : decode cX9_reaches 122 = .ok (.iload 5, 2) := by decide +kernel
theorem dX9_reaches_124 : decode cX9_reaches 124 = .ok (.iaload, 1) := by decide +kernel
theorem dX9_reaches_125 : decode cX9_reaches 125 = .ok (.iload 6, 2) := by decide +kernel
theorem dX9_reaches_127 : decode cX9_reaches 127 = .ok (.iadd, 1) := by decide +kernel
theorem dX9_reaches_128 : decode cX9_reaches 128 = .ok (.goto 10, 3) := by decide +kernel
theorem dX9_reaches_131 : decode cX9_reaches 131 = .ok (.aload_n 0, 1) := by decide +kernel
theorem dX9_reaches_132 : decode cX9_reaches 132 = .ok (.getfield 116, 3) := by decide +kernel
theorem dX9_reaches_135 : decode cX9_reaches 135 = .ok (.iload 4, 2) := by decide +kernel
theorem dX9_reaches_137 : decode cX9_reaches 137 = .ok (.iaload, 1) := by decide +kernel
theorem dX9_reaches_138 : decode cX9_reaches 138 = .ok (.iastore, 1) := by decide +kernel
theorem dX9_reaches_139 : decode cX9_reaches 139 = .ok (.aload_n 0, 1) := by decide +kernel
theorem dX9_reaches_140 : decode cX9_reaches 140 = .ok (.getfield 116, 3) := by decide +kernel
theorem dX9_reaches_143 : decode cX9_reaches 143 = .ok (.iload 5, 2) := by decide +kernel
theorem dX9_reaches_145 : decode cX9_reaches 145 = .ok (.aload_n 0, 1) := by decide +kernel
theorem dX9_reaches_146 : decode cX9_reaches 146 = .ok (.getfield 116, 3) := by decide +kernel
theorem dX9_reaches_149 : decode cX9_reaches 149 = .ok (.iload 4, 2) := by decide +kernel
theorem dX9_reaches_151 : decode cX9_reaches 151 = .ok (.iaload, 1) := by decide +kernel
theorem dX9_reaches_152 : decode cX9_reaches 152 = .ok (.iload 6, 2) := by decide +kernel
theorem dX9_reaches_154 : decode cX9_reaches 154 = .ok (.iadd, 1) := by decide +kernel
theorem dX9_reaches_155 : decode cX9_reaches 155 = .ok (.aload_n 0, 1) := by decide +kernel
theorem dX9_reaches_156 : decode cX9_reaches 156 = .ok (.getfield 116, 3) := by decide +kernel
theorem dX9_reaches_159 : decode cX9_reaches 159 = .ok (.iload 5, 2) := by decide +kernel
theorem dX9_reaches_161 : decode cX9_reaches 161 = .ok (.iaload, 1) := by decide +kernel
theorem dX9_reaches_162 : decode cX9_reaches 162 = .ok (.if_icmp .ge 16, 3) := by decide +kernel
theorem dX9_reaches_165 : decode cX9_reaches 165 = .ok (.aload_n 0, 1) := by decide +kernel
theorem dX9_reaches_166 : decode cX9_reaches 166 = .ok (.getfield 116, 3) := by decide +kernel
theorem dX9_reaches_169 : decode cX9_reaches 169 = .ok (.iload 4, 2) := by decide +kernel
theorem dX9_reaches_171 : decode cX9_reaches 171 = .ok (.iaload, 1) := by decide +kernel
theorem dX9_reaches_172 : decode cX9_reaches 172 = .ok (.iload 6, 2) := by decide +kernel
theorem dX9_reaches_174 : decode cX9_reaches 174 = .ok (.iadd, 1) := by decide +kernel
theorem dX9_reaches_175 : decode cX9_reaches 175 = .ok (.goto 10, 3) := by decide +kernel
theorem dX9_reaches_178 : decode cX9_reaches 178 = .ok (.aload_n 0, 1) := by decide +kernel
theorem dX9_reaches_179 : decode cX9_reaches 179 = .ok (.getfield 116, 3) := by decide +kernel
theorem dX9_reaches_182 : decode cX9_reaches 182 = .ok (.iload 5, 2) := by decide +kernel
theorem dX9_reaches_184 : decode cX9_reaches 184 = .ok (.iaload, 1) := by decide +kernel
theorem dX9_reaches_185 : decode cX9_reaches 185 = .ok (.iastore, 1) := by decide +kernel
theorem dX9_reaches_186 : decode cX9_reaches 186 = .ok (.iinc 3 1, 3) := by decide +kernel
theorem dX9_reaches_189 : decode cX9_reaches 189 = .ok (.goto (-148), 3) := by decide +kernel
theorem dX9_reaches_192 : decode cX9_reaches 192 = .ok (.iinc 2 1, 3) := by decide +kernel
theorem dX9_reaches_195 : decode cX9_reaches 195 = .ok (.goto (-162), 3) := by decide +kernel
theorem dX9_reaches_198 : decode cX9_reaches 198 = .ok (.return_, 1) := by decide +kernel
theorem dX9_hasRoute_0 : decode cX9_hasRoute 0 = .ok (.aload_n 0, 1) := by decide +kernel
theorem dX9_hasRoute_1 : decode cX9_hasRoute 1 = .ok (.iload_n 2, 1) := by decide +kernel
theorem dX9_hasRoute_2 : decode cX9_hasRoute 2 = .ok (.invokevirtual 242, 3) := by decide +kernel
theorem dX9_hasRoute_5 : decode cX9_hasRoute 5 = .ok (.aload_n 0, 1) := by decide +kernel
theorem dX9_hasRoute_6 : decode cX9_hasRoute 6 = .ok (.iconst 0, 1) := by decide +kernel
theorem dX9_hasRoute_7 : decode cX9_hasRoute 7 = .ok (.putfield 245, 3) := by decide +kernel
theorem dX9_hasRoute_10 : decode cX9_hasRoute 10 = .ok (.iload_n 1, 1) := by decide +kernel
theorem dX9_hasRoute_11 : decode cX9_hasRoute 11 = .ok (.istore_n 3, 1) := by decide +kernel
theorem dX9_hasRoute_12 : decode cX9_hasRoute 12 = .ok (.aload_n 0, 1) := by decide +kernel
theorem dX9_hasRoute_13 : decode cX9_hasRoute 13 = .ok (.getfield 116, 3) := by decide +kernel
theorem dX9_hasRoute_16 : decode cX9_hasRoute 16 = .ok (.iload_n 1, 1) := by decide +kernel
theorem dX9_hasRoute_17 : decode cX9_hasRoute 17 = .ok (.iaload, 1) := by decide +kernel
theorem dX9_hasRoute_18 : decode cX9_hasRoute 18 = .ok (.ldc 217, 2) := by decide +kernel
theorem dX9_hasRoute_20 : decode cX9_hasRoute 20 = .ok (.if_icmp .ge 104, 3) := by decide +kernel
theorem dX9_hasRoute_23 : decode cX9_hasRoute 23 = .ok (.iload_n 3, 1) := by decide +kernel
theorem dX9_hasRoute_24 : decode cX9_hasRoute 24 = .ok (.iload_n 2, 1) := by decide +kernel
theorem dX9_hasRoute_25 : decode cX9_hasRoute 25 = .ok (.if_icmp .eq 99, 3) := by decide +kernel
theorem dX9_hasRoute_28 : decode cX9_hasRoute 28 = .ok (.iconst 0, 1) := by decide +kernel
theorem dX9_hasRoute_29 : decode cX9_hasRoute 29 = .ok (.istore 4, 2) := by decide +kernel
theorem dX9_hasRoute_31 : decode cX9_hasRoute 31 = .ok (.aload_n 0, 1) := by decide +kernel
theorem dX9_hasRoute_32 : decode cX9_hasRoute 32 = .ok (.getfield 44, 3) := by decide +kernel
theorem dX9_hasRoute_35 : decode cX9_hasRoute 35 = .ok (.iload 4, 2) := by decide +kernel
theorem dX9_hasRoute_37 : decode cX9_hasRoute 37 = .ok (.baload, 1) := by decide +kernel
theorem dX9_hasRoute_38 : decode cX9_hasRoute 38 = .ok (.ifCond .ne 48, 3) := by decide +kernel
theorem dX9_hasRoute_41 : decode cX9_hasRoute 41 = .ok (.aload_n 0, 1) := by decide +kernel
theorem dX9_hasRoute_42 : decode cX9_hasRoute 42 = .ok (.iload 4, 2) := by decide +kernel
theorem dX9_hasRoute_44 : decode cX9_hasRoute 44 = .ok (.iload_n 3, 1) := by decide +kernel
theorem dX9_hasRoute_45 : decode cX9_hasRoute 45 = .ok (.invokevirtual 248, 3) := by decide +kernel
theorem dX9_hasRoute_48 : decode cX9_hasRoute 48 = .ok (.iconst (-1), 1) := by decide +kernel
theorem dX9_hasRoute_49 : decode cX9_hasRoute 49 = .ok (.if_icmp .eq 37, 3) := by decide +kernel
theorem dX9_hasRoute_52 : decode cX9_hasRoute 52 = .ok (.aload_n 0, 1) := by decide +kernel
theorem dX9_hasRoute_53 : decode cX9_hasRoute 53 = .ok (.getfield 116, 3) := by decide +kernel
theorem dX9_hasRoute_56 : decode cX9_hasRoute 56 = .ok (.aload_n 0, 1) := by decide +kernel
theorem dX9_hasRoute_57 : decode cX9_hasRoute 57 = .ok (.iload 4, 2) := by decide +kernel
theorem dX9_hasRoute_59 : decode cX9_hasRoute 59 = .ok (.iload_n 3, 1) := by decide +kernel
theorem dX9_hasRoute_60 : decode cX9_hasRoute 60 = .ok (.invokevirtual 248, 3) := by decide +kernel
theorem dX9_hasRoute_63 : decode cX9_hasRoute 63 = .ok (.iaload, 1) := by decide +kernel
theorem dX9_hasRoute_64 : decode cX9_hasRoute 64 = .ok (.bipush 16, 2) := by decide +kernel
theorem dX9_hasRoute_66 : decode cX9_hasRoute 66 = .ok (.aload_n 0, 1) := by decide +kernel
theorem dX9_hasRoute_67 : decode cX9_hasRoute 67 = .ok (.getfield 38, 3) := by decide +kernel
theorem dX9_hasRoute_70 : decode cX9_hasRoute 70 = .ok (.iload 4, 2) := by decide +kernel
theorem dX9_hasRoute_72 : decode cX9_hasRoute 72 = .ok (.iaload, 1) := by decide +kernel
theorem dX9_hasRoute_73 : decode cX9_hasRoute 73 = .ok (.imul, 1) := by decide +kernel
theorem dX9_hasRoute_74 : decode cX9_hasRoute 74 = .ok (.iadd, 1) := by decide +kernel
theorem dX9_hasRoute_75 : decode cX9_hasRoute 75 = .ok (.iconst 1, 1) := by decide +kernel
theorem dX9_hasRoute_76 : decode cX9_hasRoute 76 = .ok (.iadd, 1) := by decide +kernel
theorem dX9_hasRoute_77 : decode cX9_hasRoute 77 = .ok (.aload_n 0, 1) := by decide +kernel
theorem dX9_hasRoute_78 : decode cX9_hasRoute 78 = .ok (.getfield 116, 3) := by decide +kernel
theorem dX9_hasRoute_81 : decode cX9_hasRoute 81 = .ok (.iload_n 3, 1) := by decide +kernel
theorem dX9_hasRoute_82 : decode cX9_hasRoute 82 = .ok (.iaload, 1) := by decide +kernel
theorem dX9_hasRoute_83 : decode cX9_hasRoute 83 = .ok (.if_icmp .eq 9, 3) := by decide +kernel
theorem dX9_hasRoute_86 : decode cX9_hasRoute 86 = .ok (.iinc 4 1, 3) := by decide +kernel
theorem dX9_hasRoute_89 : decode cX9_hasRoute 89 = .ok (.goto (-58), 3) := by decide +kernel
theorem dX9_hasRoute_92 : decode cX9_hasRoute 92 = .ok (.aload_n 0, 1) := by decide +kernel
theorem dX9_hasRoute_93 : decode cX9_hasRoute 93 = .ok (.getfield 119, 3) := by decide +kernel
theorem dX9_hasRoute_96 : decode cX9_hasRoute 96 = .ok (.aload_n 0, 1) := by decide +kernel
theorem dX9_hasRoute_97 : decode cX9_hasRoute 97 = .ok (.getfield 245, 3) := by decide +kernel
theorem dX9_hasRoute_100 : decode cX9_hasRoute 100 = .ok (.iload 4, 2) := by decide +kernel
theorem dX9_hasRoute_102 : decode cX9_hasRoute 102 = .ok (.iastore, 1) := by decide +kernel
theorem dX9_hasRoute_103 : decode cX9_hasRoute 103 = .ok (.aload_n 0, 1) := by decide +kernel
theorem dX9_hasRoute_104 : decode cX9_hasRoute 104 = .ok (.dup, 1) := by decide +kernel
theorem dX9_hasRoute_105 : decode cX9_hasRoute 105 = .ok (.getfield 245, 3) := by decide +kernel
theorem dX9_hasRoute_108 : decode cX9_hasRoute 108 = .ok (.iconst 1, 1) := by decide +kernel
theorem dX9_hasRoute_109 : decode cX9_hasRoute 109 = .ok (.iadd, 1) := by decide +kernel
theorem dX9_hasRoute_110 : decode cX9_hasRoute 110 = .ok (.putfield 245, 3) := by decide +kernel
theorem dX9_hasRoute_113 : decode cX9_hasRoute 113 = .ok (.aload_n 0, 1) := by decide +kernel
theorem dX9_hasRoute_114 : decode cX9_hasRoute 114 = .ok (.iload 4, 2) := by decide +kernel
theorem dX9_hasRoute_116 : decode cX9_hasRoute 116 = .ok (.iload_n 3, 1) := by decide +kernel
theorem dX9_hasRoute_117 : decode cX9_hasRoute 117 = .ok (.invokevirtual 248, 3) := by decide +kernel
theorem dX9_hasRoute_120 : decode cX9_hasRoute 120 = .ok (.istore_n 3, 1) := by decide +kernel
theorem dX9_hasRoute_121 : decode cX9_hasRoute 121 = .ok (.goto (-109), 3) := by decide +kernel
theorem dX9_hasRoute_124 : decode cX9_hasRoute 124 = .ok (.aload_n 0, 1) := by decide +kernel
theorem dX9_hasRoute_125 : decode cX9_hasRoute 125 = .ok (.getfield 116, 3) := by decide +kernel
theorem dX9_hasRoute_128 : decode cX9_hasRoute 128 = .ok (.iload_n 1, 1) := by decide +kernel
theorem dX9_hasRoute_129 : decode cX9_hasRoute 129 = .ok (.iaload, 1) := by decide +kernel
theorem dX9_hasRoute_130 : decode cX9_hasRoute 130 = .ok (.ldc 217, 2) := by decide +kernel
theorem dX9_hasRoute_132 : decode cX9_hasRoute 132 = .ok (.if_icmp .ge 7, 3) := by decide +kernel
theorem dX9_hasRoute_135 : decode cX9_hasRoute 135 = .ok (.iconst 1, 1) := by decide +kernel
theorem dX9_hasRoute_136 : decode cX9_hasRoute 136 = .ok (.goto 4, 3) := by decide +kernel
theorem dX9_hasRoute_139 : decode cX9_hasRoute 139 = .ok (.iconst 0, 1) := by decide +kernel
theorem dX9_hasRoute_140 : decode cX9_hasRoute 140 = .ok (.ireturn, 1) := by decide +kernel
theorem dX9_comes_0 : decode cX9_comes 0 = .ok (.aload_n 0, 1) := by decide +kernel
theorem dX9_comes_1 : decode cX9_comes 1 = .ok (.getfield 92, 3) := by decide +kernel
theorem dX9_comes_4 : decode cX9_comes 4 = .ok (.iload_n 1, 1) := by decide +kernel
theorem dX9_comes_5 : decode cX9_comes 5 = .ok (.baload, 1) := by decide +kernel
theorem dX9_comes_6 : decode cX9_comes 6 = .ok (.ifCond .eq 29, 3) := by decide +kernel
theorem dX9_comes_9 : decode cX9_comes 9 = .ok (.aload_n 0, 1) := by decide +kernel
theorem dX9_comes_10 : decode cX9_comes 10 = .ok (.getfield 19, 3) := by decide +kernel
theorem dX9_comes_13 : decode cX9_comes 13 = .ok (.iload_n 2, 1) := by decide +kernel
theorem dX9_comes_14 : decode cX9_comes 14 = .ok (.baload, 1) := by decide +kernel
theorem dX9_comes_15 : decode cX9_comes 15 = .ok (.ifCond .eq 20, 3) := by decide +kernel
theorem dX9_comes_18 : decode cX9_comes 18 = .ok (.aload_n 0, 1) := by decide +kernel
theorem dX9_comes_19 : decode cX9_comes 19 = .ok (.getfield 77, 3) := by decide +kernel
theorem dX9_comes_22 : decode cX9_comes 22 = .ok (.iload_n 1, 1) := by decide +kernel
theorem dX9_comes_23 : decode cX9_comes 23 = .ok (.iconst 2, 1) := by decide +kernel
theorem dX9_comes_24 : decode cX9_comes 24 = .ok (.iastore, 1) := by decide +kernel
theorem dX9_comes_25 : decode cX9_comes 25 = .ok (.aload_n 0, 1) := by decide +kernel
theorem dX9_comes_26 : decode cX9_comes 26 = .ok (.getfield 89, 3) := by decide +kernel
theorem dX9_comes_29 : decode cX9_comes 29 = .ok (.iload_n 1, 1) := by decide +kernel
theorem dX9_comes_30 : decode cX9_comes 30 = .ok (.iload_n 2, 1) := by decide +kernel
theorem dX9_comes_31 : decode cX9_comes 31 = .ok (.iastore, 1) := by decide +kernel
theorem dX9_comes_32 : decode cX9_comes 32 = .ok (.goto 20, 3) := by decide +kernel
theorem dX9_comes_35 : decode cX9_comes 35 = .ok (.iload_n 2, 1) := by decide +kernel
theorem dX9_comes_36 : decode cX9_comes 36 = .ok (.aload_n 0, 1) := by decide +kernel
theorem dX9_comes_37 : decode cX9_comes 37 = .ok (.getfield 71, 3) := by decide +kernel
theorem dX9_comes_40 : decode cX9_comes 40 = .ok (.iload_n 1, 1) := by decide +kernel
theorem dX9_comes_41 : decode cX9_comes 41 = .ok (.iaload, 1) := by decide +kernel
theorem dX9_comes_42 : decode cX9_comes 42 = .ok (.if_icmp .ne 10, 3) := by decide +kernel
theorem dX9_comes_45 : decode cX9_comes 45 = .ok (.aload_n 0, 1) := by decide +kernel
theorem dX9_comes_46 : decode cX9_comes 46 = .ok (.getfield 77, 3) := by decide +kernel
theorem dX9_comes_49 : decode cX9_comes 49 = .ok (.iload_n 1, 1) := by decide +kernel
theorem dX9_comes_50 : decode cX9_comes 50 = .ok (.iconst 1, 1) := by decide +kernel
theorem dX9_comes_51 : decode cX9_comes 51 = .ok (.iastore, 1) := by decide +kernel
theorem dX9_comes_52 : decode cX9_comes 52 = .ok (.return_, 1) := by decide +kernel
theorem dX9_send_0 : decode cX9_send 0 = .ok (.aload_n 0, 1) := by decide +kernel
theorem dX9_send_1 : decode cX9_send 1 = .ok (.aload_n 0, 1) := by decide +kernel
theorem dX9_send_2 : decode cX9_send 2 = .ok (.iload_n 1, 1) := by decide +kernel
theorem dX9_send_3 : decode cX9_send 3 = .ok (.invokevirtual 184, 3) := by decide +kernel
theorem dX9_send_6 : decode cX9_send 6 = .ok (.ifCond .eq 15, 3) := by decide +kernel
theorem dX9_send_9 : decode cX9_send 9 = .ok (.aload_n 0, 1) := by decide +kernel
theorem dX9_send_10 : decode cX9_send 10 = .ok (.iload_n 2, 1) := by decide +kernel
theorem dX9_send_11 : decode cX9_send 11 = .ok (.invokevirtual 184, 3) := by decide +kernel
theorem dX9_send_14 : decode cX9_send 14 = .ok (.ifCond .eq 7, 3) := by decide +kernel
theorem dX9_send_17 : decode cX9_send 17 = .ok (.iconst 1, 1) := by decide +kernel
theorem dX9_send_18 : decode cX9_send 18 = .ok (.goto 4, 3) := by decide +kernel
theorem dX9_send_21 : decode cX9_send 21 = .ok (.iconst 0, 1) := by decide +kernel
theorem dX9_send_22 : decode cX9_send 22 = .ok (.invokevirtual 150, 3) := by decide +kernel
theorem dX9_send_25 : decode cX9_send 25 = .ok (.ifCond .ne 5, 3) := by decide +kernel
theorem dX9_send_28 : decode cX9_send 28 = .ok (.iconst 0, 1) := by decide +kernel
theorem dX9_send_29 : decode cX9_send 29 = .ok (.ireturn, 1) := by decide +kernel
theorem dX9_send_30 : decode cX9_send 30 = .ok (.iload_n 1, 1) := by decide +kernel
theorem dX9_send_31 : decode cX9_send 31 = .ok (.iload_n 2, 1) := by decide +kernel
theorem dX9_send_32 : decode cX9_send 32 = .ok (.if_icmp .eq 12, 3) := by decide +kernel
theorem dX9_send_35 : decode cX9_send 35 = .ok (.iload_n 3, 1) := by decide +kernel
theorem dX9_send_36 : decode cX9_send 36 = .ok (.iconst 0, 1) := by decide +kernel
theorem dX9_send_37 : decode cX9_send 37 = .ok (.iconst 2, 1) := by decide +kernel
theorem dX9_send_38 : decode cX9_send 38 = .ok (.invokestatic 129, 3) := by decide +kernel
theorem dX9_send_41 : decode cX9_send 41 = .ok (.ifCond .ne 9, 3) := by decide +kernel
theorem dX9_send_44 : decode cX9_send 44 = .ok (.aload_n 0, 1) := by decide +kernel
theorem dX9_send_45 : decode cX9_send 45 = .ok (.iconst 2, 1) := by decide +kernel
theorem dX9_send_46 : decode cX9_send 46 = .ok (.invokevirtual 154, 3) := by decide +kernel
theorem dX9_send_49 : decode cX9_send 49 = .ok (.ireturn, 1) := by decide +kernel
theorem dX9_send_50 : decode cX9_send 50 = .ok (.aload_n 0, 1) := by decide +kernel
theorem dX9_send_51 : decode cX9_send 51 = .ok (.getfield 202, 3) := by decide +kernel
theorem dX9_send_54 : decode cX9_send 54 = .ok (.ifCond .eq 21, 3) := by decide +kernel
theorem dX9_send_57 : decode cX9_send 57 = .ok (.aload_n 0, 1) := by decide +kernel
theorem dX9_send_58 : decode cX9_send 58 = .ok (.getfield 139, 3) := by decide +kernel
theorem dX9_send_61 : decode cX9_send 61 = .ok (.bipush 60, 2) := by decide +kernel
theorem dX9_send_63 : decode cX9_send 63 = .ok (.if_icmp .eq 12, 3) := by decide +kernel
theorem dX9_send_66 : decode cX9_send 66 = .ok (.aload_n 0, 1) := by decide +kernel
theorem dX9_send_67 : decode cX9_send 67 = .ok (.iload_n 1, 1) := by decide +kernel
theorem dX9_send_68 : decode cX9_send 68 = .ok (.iload_n 2, 1) := by decide +kernel
theorem dX9_send_69 : decode cX9_send 69 = .ok (.invokevirtual 251, 3) := by decide +kernel
theorem dX9_send_72 : decode cX9_send 72 = .ok (.ifCond .ne 9, 3) := by decide +kernel
theorem dX9_send_75 : decode cX9_send 75 = .ok (.aload_n 0, 1) := by decide +kernel
theorem dX9_send_76 : decode cX9_send 76 = .ok (.iconst 3, 1) := by decide +kernel
theorem dX9_send_77 : decode cX9_send 77 = .ok (.invokevirtual 154, 3) := by decide +kernel
theorem dX9_send_80 : decode cX9_send 80 = .ok (.ireturn, 1) := by decide +kernel
theorem dX9_send_81 : decode cX9_send 81 = .ok (.aload_n 0, 1) := by decide +kernel
theorem dX9_send_82 : decode cX9_send 82 = .ok (.iload_n 1, 1) := by decide +kernel
theorem dX9_send_83 : decode cX9_send 83 = .ok (.iload 4, 2) := by decide +kernel
theorem dX9_send_85 : decode cX9_send 85 = .ok (.invokevirtual 238, 3) := by decide +kernel
theorem dX9_send_88 : decode cX9_send 88 = .ok (.aload_n 0, 1) := by decide +kernel
theorem dX9_send_89 : decode cX9_send 89 = .ok (.getfield 139, 3) := by decide +kernel
theorem dX9_send_92 : decode cX9_send 92 = .ok (.istore 5, 2) := by decide +kernel
theorem dX9_send_94 : decode cX9_send 94 = .ok (.aload_n 0, 1) := by decide +kernel
theorem dX9_send_95 : decode cX9_send 95 = .ok (.dup, 1) := by decide +kernel
theorem dX9_send_96 : decode cX9_send 96 = .ok (.getfield 139, 3) := by decide +kernel
theorem dX9_send_99 : decode cX9_send 99 = .ok (.iconst 1, 1) := by decide +kernel
theorem dX9_send_100 : decode cX9_send 100 = .ok (.iadd, 1) := by decide +kernel
theorem dX9_send_101 : decode cX9_send 101 = .ok (.putfield 139, 3) := by decide +kernel
theorem dX9_send_104 : decode cX9_send 104 = .ok (.aload_n 0, 1) := by decide +kernel
theorem dX9_send_105 : decode cX9_send 105 = .ok (.getfield 68, 3) := by decide +kernel
theorem dX9_send_108 : decode cX9_send 108 = .ok (.iload 5, 2) := by decide +kernel
theorem dX9_send_110 : decode cX9_send 110 = .ok (.iload_n 1, 1) := by decide +kernel
theorem dX9_send_111 : decode cX9_send 111 = .ok (.iastore, 1) := by decide +kernel
theorem dX9_send_112 : decode cX9_send 112 = .ok (.aload_n 0, 1) := by decide +kernel
theorem dX9_send_113 : decode cX9_send 113 = .ok (.getfield 71, 3) := by decide +kernel
theorem dX9_send_116 : decode cX9_send 116 = .ok (.iload 5, 2) := by decide +kernel
theorem dX9_send_118 : decode cX9_send 118 = .ok (.iload_n 2, 1) := by decide +kernel
theorem dX9_send_119 : decode cX9_send 119 = .ok (.iastore, 1) := by decide +kernel
theorem dX9_send_120 : decode cX9_send 120 = .ok (.aload_n 0, 1) := by decide +kernel
theorem dX9_send_121 : decode cX9_send 121 = .ok (.getfield 74, 3) := by decide +kernel
theorem dX9_send_124 : decode cX9_send 124 = .ok (.iload 5, 2) := by decide +kernel
theorem dX9_send_126 : decode cX9_send 126 = .ok (.iload_n 3, 1) := by decide +kernel
theorem dX9_send_127 : decode cX9_send 127 = .ok (.iastore, 1) := by decide +kernel
theorem dX9_send_128 : decode cX9_send 128 = .ok (.aload_n 0, 1) := by decide +kernel
theorem dX9_send_129 : decode cX9_send 129 = .ok (.getfield 77, 3) := by decide +kernel
theorem dX9_send_132 : decode cX9_send 132 = .ok (.iload 5, 2) := by decide +kernel
theorem dX9_send_134 : decode cX9_send 134 = .ok (.iconst 0, 1) := by decide +kernel
theorem dX9_send_135 : decode cX9_send 135 = .ok (.iastore, 1) := by decide +kernel
theorem dX9_send_136 : decode cX9_send 136 = .ok (.aload_n 0, 1) := by decide +kernel
theorem dX9_send_137 : decode cX9_send 137 = .ok (.getfield 89, 3) := by decide +kernel
theorem dX9_send_140 : decode cX9_send 140 = .ok (.iload 5, 2) := by decide +kernel
theorem dX9_send_142 : decode cX9_send 142 = .ok (.iconst (-1), 1) := by decide +kernel
theorem dX9_send_143 : decode cX9_send 143 = .ok (.iastore, 1) := by decide +kernel
theorem dX9_send_144 : decode cX9_send 144 = .ok (.aload_n 0, 1) := by decide +kernel
theorem dX9_send_145 : decode cX9_send 145 = .ok (.getfield 83, 3) := by decide +kernel
theorem dX9_send_148 : decode cX9_send 148 = .ok (.iload 5, 2) := by decide +kernel
theorem dX9_send_150 : decode cX9_send 150 = .ok (.aload_n 0, 1) := by decide +kernel
theorem dX9_send_151 : decode cX9_send 151 = .ok (.getfield 228, 3) := by decide +kernel
theorem dX9_send_154 : decode cX9_send 154 = .ok (.iastore, 1) := by decide +kernel
theorem dX9_send_155 : decode cX9_send 155 = .ok (.aload_n 0, 1) := by decide +kernel
theorem dX9_send_156 : decode cX9_send 156 = .ok (.getfield 80, 3) := by decide +kernel
theorem dX9_send_159 : decode cX9_send 159 = .ok (.iload 5, 2) := by decide +kernel
theorem dX9_send_161 : decode cX9_send 161 = .ok (.aload_n 0, 1) := by decide +kernel
theorem dX9_send_162 : decode cX9_send 162 = .ok (.getfield 222, 3) := by decide +kernel
theorem dX9_send_165 : decode cX9_send 165 = .ok (.iastore, 1) := by decide +kernel
theorem dX9_send_166 : decode cX9_send 166 = .ok (.aload_n 0, 1) := by decide +kernel
theorem dX9_send_167 : decode cX9_send 167 = .ok (.getfield 107, 3) := by decide +kernel
theorem dX9_send_170 : decode cX9_send 170 = .ok (.iload 5, 2) := by decide +kernel
theorem dX9_send_172 : decode cX9_send 172 = .ok (.iconst 0, 1) := by decide +kernel
theorem dX9_send_173 : decode cX9_send 173 = .ok (.iastore, 1) := by decide +kernel
theorem dX9_send_174 : decode cX9_send 174 = .ok (.aload_n 0, 1) := by decide +kernel
theorem dX9_send_175 : decode cX9_send 175 = .ok (.getfield 110, 3) := by decide +kernel
theorem dX9_send_178 : decode cX9_send 178 = .ok (.iload 5, 2) := by decide +kernel
theorem dX9_send_180 : decode cX9_send 180 = .ok (.iconst 0, 1) := by decide +kernel
theorem dX9_send_181 : decode cX9_send 181 = .ok (.iastore, 1) := by decide +kernel
theorem dX9_send_182 : decode cX9_send 182 = .ok (.aload_n 0, 1) := by decide +kernel
theorem dX9_send_183 : decode cX9_send 183 = .ok (.getfield 92, 3) := by decide +kernel
theorem dX9_send_186 : decode cX9_send 186 = .ok (.iload 5, 2) := by decide +kernel
theorem dX9_send_188 : decode cX9_send 188 = .ok (.iconst 0, 1) := by decide +kernel
theorem dX9_send_189 : decode cX9_send 189 = .ok (.bastore, 1) := by decide +kernel
theorem dX9_send_190 : decode cX9_send 190 = .ok (.iconst 0, 1) := by decide +kernel
theorem dX9_send_191 : decode cX9_send 191 = .ok (.istore 6, 2) := by decide +kernel
theorem dX9_send_193 : decode cX9_send 193 = .ok (.iload 6, 2) := by decide +kernel
theorem dX9_send_195 : decode cX9_send 195 = .ok (.aload_n 0, 1) := by decide +kernel
theorem dX9_send_196 : decode cX9_send 196 = .ok (.getfield 222, 3) := by decide +kernel
theorem dX9_send_199 : decode cX9_send 199 = .ok (.if_icmp .ge 119, 3) := by decide +kernel
theorem dX9_send_202 : decode cX9_send 202 = .ok (.aload_n 0, 1) := by decide +kernel
theorem dX9_send_203 : decode cX9_send 203 = .ok (.getfield 65, 3) := by decide +kernel
theorem dX9_send_206 : decode cX9_send 206 = .ok (.iload 6, 2) := by decide +kernel
theorem dX9_send_208 : decode cX9_send 208 = .ok (.iaload, 1) := by decide +kernel
theorem dX9_send_209 : decode cX9_send 209 = .ok (.ifCond .lt 7, 3) := by decide +kernel
theorem dX9_send_212 : decode cX9_send 212 = .ok (.iconst 1, 1) := by decide +kernel
theorem dX9_send_213 : decode cX9_send 213 = .ok (.goto 4, 3) := by decide +kernel
theorem dX9_send_216 : decode cX9_send 216 = .ok (.iconst 0, 1) := by decide +kernel
theorem dX9_send_217 : decode cX9_send 217 = .ok (.istore 7, 2) := by decide +kernel
theorem dX9_send_219 : decode cX9_send 219 = .ok (.aload_n 0, 1) := by decide +kernel
theorem dX9_send_220 : decode cX9_send 220 = .ok (.getfield 92, 3) := by decide +kernel
theorem dX9_send_223 : decode cX9_send 223 = .ok (.iload 5, 2) := by decide +kernel
theorem dX9_send_225 : decode cX9_send 225 = .ok (.aload_n 0, 1) := by decide +kernel
theorem dX9_send_226 : decode cX9_send 226 = .ok (.getfield 92, 3) := by decide +kernel
theorem dX9_send_229 : decode cX9_send 229 = .ok (.iload 5, 2) := by decide +kernel
theorem dX9_send_231 : decode cX9_send 231 = .ok (.baload, 1) := by decide +kernel
theorem dX9_send_232 : decode cX9_send 232 = .ok (.ifCond .ne 8, 3) := by decide +kernel
theorem dX9_send_235 : decode cX9_send 235 = .ok (.iload 7, 2) := by decide +kernel
theorem dX9_send_237 : decode cX9_send 237 = .ok (.ifCond .eq 7, 3) := by decide +kernel
theorem dX9_send_240 : decode cX9_send 240 = .ok (.iconst 1, 1) := by decide +kernel
theorem dX9_send_241 : decode cX9_send 241 = .ok (.goto 4, 3) := by decide +kernel
theorem dX9_send_244 : decode cX9_send 244 = .ok (.iconst 0, 1) := by decide +kernel
theorem dX9_send_245 : decode cX9_send 245 = .ok (.bastore, 1) := by decide +kernel
theorem dX9_send_246 : decode cX9_send 246 = .ok (.aload_n 0, 1) := by decide +kernel
theorem dX9_send_247 : decode cX9_send 247 = .ok (.getfield 95, 3) := by decide +kernel
theorem dX9_send_250 : decode cX9_send 250 = .ok (.bipush 24, 2) := by decide +kernel
theorem dX9_send_252 : decode cX9_send 252 = .ok (.iload 5, 2) := by decide +kernel
theorem dX9_send_254 : decode cX9_send 254 = .ok (.imul, 1) := by decide +kernel
theorem dX9_send_255 : decode cX9_send 255 = .ok (.iload 6, 2) := by decide +kernel
theorem dX9_send_257 : decode cX9_send 257 = .ok (.iadd, 1) := by decide +kernel
theorem dX9_send_258 : decode cX9_send 258 = .ok (.iload 7, 2) := by decide +kernel
theorem dX9_send_260 : decode cX9_send 260 = .ok (.ifCond .eq 18, 3) := by decide +kernel
theorem dX9_send_263 : decode cX9_send 263 = .ok (.aload_n 0, 1) := by decide +kernel
theorem dX9_send_264 : decode cX9_send 264 = .ok (.aload_n 0, 1) := by decide +kernel
theorem dX9_send_265 : decode cX9_send 265 = .ok (.getfield 65, 3) := by decide +kernel
theorem dX9_send_268 : decode cX9_send 268 = .ok (.iload 6, 2) := by decide +kernel
theorem dX9_send_270 : decode cX9_send 270 = .ok (.iaload, 1) := by decide +kernel
theorem dX9_send_271 : decode cX9_send 271 = .ok (.iload_n 1, 1) := by decide +kernel
theorem dX9_send_272 : decode cX9_send 272 = .ok (.invokevirtual 205, 3) := by decide +kernel
theorem dX9_send_275 : decode cX9_send 275 = .ok (.goto 10, 3) := by decide +kernel
theorem dX9_send_278 : decode cX9_send 278 = .ok (.aload_n 0, 1) := by decide +kernel
theorem dX9_send_279 : decode cX9_send 279 = .ok (.getfield 65, 3) := by decide +kernel
theorem dX9_send_282 : decode cX9_send 282 = .ok (.iload 6, 2) := by decide +kernel
theorem dX9_send_284 : decode cX9_send 284 = .ok (.iaload, 1) := by decide +kernel
theorem dX9_send_285 : decode cX9_send 285 = .ok (.iastore, 1) := by decide +kernel
theorem dX9_send_286 : decode cX9_send 286 = .ok (.aload_n 0, 1) := by decide +kernel
theorem dX9_send_287 : decode cX9_send 287 = .ok (.getfield 98, 3) := by decide +kernel
theorem dX9_send_290 : decode cX9_send 290 = .ok (.bipush 24, 2) := by decide +kernel
theorem dX9_send_292 : decode cX9_send 292 = .ok (.iload 5, 2) := by decide +kernel
theorem dX9_send_294 : decode cX9_send 294 = .ok (.imul, 1) := by decide +kernel
theorem dX9_send_295 : decode cX9_send 295 = .ok (.iload 6, 2) := by decide +kernel
theorem dX9_send_297 : decode cX9_send 297 = .ok (.iadd, 1) := by decide +kernel
theorem dX9_send_298 : decode cX9_send 298 = .ok (.aload_n 0, 1) := by decide +kernel
theorem dX9_send_299 : decode cX9_send 299 = .ok (.getfield 95, 3) := by decide +kernel
theorem dX9_send_302 : decode cX9_send 302 = .ok (.bipush 24, 2) := by decide +kernel
theorem dX9_send_304 : decode cX9_send 304 = .ok (.iload 5, 2) := by decide +kernel
theorem dX9_send_306 : decode cX9_send 306 = .ok (.imul, 1) := by decide +kernel
theorem dX9_send_307 : decode cX9_send 307 = .ok (.iload 6, 2) := by decide +kernel
theorem dX9_send_309 : decode cX9_send 309 = .ok (.iadd, 1) := by decide +kernel
theorem dX9_send_310 : decode cX9_send 310 = .ok (.iaload, 1) := by decide +kernel
theorem dX9_send_311 : decode cX9_send 311 = .ok (.iastore, 1) := by decide +kernel
theorem dX9_send_312 : decode cX9_send 312 = .ok (.iinc 6 1, 3) := by decide +kernel
theorem dX9_send_315 : decode cX9_send 315 = .ok (.goto (-122), 3) := by decide +kernel
theorem dX9_send_318 : decode cX9_send 318 = .ok (.aload_n 0, 1) := by decide +kernel
theorem dX9_send_319 : decode cX9_send 319 = .ok (.getfield 104, 3) := by decide +kernel
theorem dX9_send_322 : decode cX9_send 322 = .ok (.iload 5, 2) := by decide +kernel
theorem dX9_send_324 : decode cX9_send 324 = .ok (.aload_n 0, 1) := by decide +kernel
theorem dX9_send_325 : decode cX9_send 325 = .ok (.getfield 245, 3) := by decide +kernel
theorem dX9_send_328 : decode cX9_send 328 = .ok (.iastore, 1) := by decide +kernel
theorem dX9_send_329 : decode cX9_send 329 = .ok (.aload_n 0, 1) := by decide +kernel
theorem dX9_send_330 : decode cX9_send 330 = .ok (.getfield 86, 3) := by decide +kernel
theorem dX9_send_333 : decode cX9_send 333 = .ok (.iload 5, 2) := by decide +kernel
theorem dX9_send_335 : decode cX9_send 335 = .ok (.iconst 0, 1) := by decide +kernel
theorem dX9_send_336 : decode cX9_send 336 = .ok (.iastore, 1) := by decide +kernel
theorem dX9_send_337 : decode cX9_send 337 = .ok (.iconst 0, 1) := by decide +kernel
theorem dX9_send_338 : decode cX9_send 338 = .ok (.istore 6, 2) := by decide +kernel
theorem dX9_send_340 : decode cX9_send 340 = .ok (.iload 6, 2) := by decide +kernel
theorem dX9_send_342 : decode cX9_send 342 = .ok (.aload_n 0, 1) := by decide +kernel
theorem dX9_send_343 : decode cX9_send 343 = .ok (.getfield 245, 3) := by decide +kernel
theorem dX9_send_346 : decode cX9_send 346 = .ok (.if_icmp .ge 86, 3) := by decide +kernel
theorem dX9_send_349 : decode cX9_send 349 = .ok (.aload_n 0, 1) := by decide +kernel
theorem dX9_send_350 : decode cX9_send 350 = .ok (.getfield 38, 3) := by decide +kernel
theorem dX9_send_353 : decode cX9_send 353 = .ok (.aload_n 0, 1) := by decide +kernel
theorem dX9_send_354 : decode cX9_send 354 = .ok (.getfield 119, 3) := by decide +kernel
theorem dX9_send_357 : decode cX9_send 357 = .ok (.iload 6, 2) := by decide +kernel
theorem dX9_send_359 : decode cX9_send 359 = .ok (.iaload, 1) := by decide +kernel
theorem dX9_send_360 : decode cX9_send 360 = .ok (.iaload, 1) := by decide +kernel
theorem dX9_send_361 : decode cX9_send 361 = .ok (.aload_n 0, 1) := by decide +kernel
theorem dX9_send_362 : decode cX9_send 362 = .ok (.getfield 228, 3) := by decide +kernel
theorem dX9_send_365 : decode cX9_send 365 = .ok (.imul, 1) := by decide +kernel
theorem dX9_send_366 : decode cX9_send 366 = .ok (.iconst 1, 1) := by decide +kernel
theorem dX9_send_367 : decode cX9_send 367 = .ok (.iload_n 3, 1) := by decide +kernel
theorem dX9_send_368 : decode cX9_send 368 = .ok (.ishl, 1) := by decide +kernel
theorem dX9_send_369 : decode cX9_send 369 = .ok (.imul, 1) := by decide +kernel
theorem dX9_send_370 : decode cX9_send 370 = .ok (.istore 7, 2) := by decide +kernel
theorem dX9_send_372 : decode cX9_send 372 = .ok (.aload_n 0, 1) := by decide +kernel
theorem dX9_send_373 : decode cX9_send 373 = .ok (.getfield 101, 3) := by decide +kernel
theorem dX9_send_376 : decode cX9_send 376 = .ok (.bipush 8, 2) := by decide +kernel
theorem dX9_send_378 : decode cX9_send 378 = .ok (.iload 5, 2) := by decide +kernel
theorem dX9_send_380 : decode cX9_send 380 = .ok (.imul, 1) := by decide +kernel
theorem dX9_send_381 : decode cX9_send 381 = .ok (.iload 6, 2) := by decide +kernel
theorem dX9_send_383 : decode cX9_send 383 = .ok (.iadd, 1) := by decide +kernel
theorem dX9_send_384 : decode cX9_send 384 = .ok (.aload_n 0, 1) := by decide +kernel
theorem dX9_send_385 : decode cX9_send 385 = .ok (.getfield 119, 3) := by decide +kernel
theorem dX9_send_388 : decode cX9_send 388 = .ok (.iload 6, 2) := by decide +kernel
theorem dX9_send_390 : decode cX9_send 390 = .ok (.iaload, 1) := by decide +kernel
theorem dX9_send_391 : decode cX9_send 391 = .ok (.iastore, 1) := by decide +kernel
theorem dX9_send_392 : decode cX9_send 392 = .ok (.aload_n 0, 1) := by decide +kernel
theorem dX9_send_393 : decode cX9_send 393 = .ok (.getfield 86, 3) := by decide +kernel
theorem dX9_send_396 : decode cX9_send 396 = .ok (.iload 5, 2) := by decide +kernel
theorem dX9_send_398 : decode cX9_send 398 = .ok (.dup2, 1) := by decide +kernel
theorem dX9_send_399 : decode cX9_send 399 = .ok (.iaload, 1) := by decide +kernel
theorem dX9_send_400 : decode cX9_send 400 = .ok (.iload 7, 2) := by decide +kernel
theorem dX9_send_402 : decode cX9_send 402 = .ok (.iadd, 1) := by decide +kernel
theorem dX9_send_403 : decode cX9_send 403 = .ok (.iastore, 1) := by decide +kernel
theorem dX9_send_404 : decode cX9_send 404 = .ok (.aload_n 0, 1) := by decide +kernel
theorem dX9_send_405 : decode cX9_send 405 = .ok (.getfield 29, 3) := by decide +kernel
theorem dX9_send_408 : decode cX9_send 408 = .ok (.aload_n 0, 1) := by decide +kernel
theorem dX9_send_409 : decode cX9_send 409 = .ok (.getfield 32, 3) := by decide +kernel
theorem dX9_send_412 : decode cX9_send 412 = .ok (.aload_n 0, 1) := by decide +kernel
theorem dX9_send_413 : decode cX9_send 413 = .ok (.getfield 119, 3) := by decide +kernel
theorem dX9_send_416 : decode cX9_send 416 = .ok (.iload 6, 2) := by decide +kernel
theorem dX9_send_418 : decode cX9_send 418 = .ok (.iaload, 1) := by decide +kernel
theorem dX9_send_419 : decode cX9_send 419 = .ok (.iaload, 1) := by decide +kernel
theorem dX9_send_420 : decode cX9_send 420 = .ok (.dup2, 1) := by decide +kernel
theorem dX9_send_421 : decode cX9_send 421 = .ok (.iaload, 1) := by decide +kernel
theorem dX9_send_422 : decode cX9_send 422 = .ok (.iload 7, 2) := by decide +kernel
theorem dX9_send_424 : decode cX9_send 424 = .ok (.iadd, 1) := by decide +kernel
theorem dX9_send_425 : decode cX9_send 425 = .ok (.iastore, 1) := by decide +kernel
theorem dX9_send_426 : decode cX9_send 426 = .ok (.iinc 6 1, 3) := by decide +kernel
theorem dX9_send_429 : decode cX9_send 429 = .ok (.goto (-89), 3) := by decide +kernel
theorem dX9_send_432 : decode cX9_send 432 = .ok (.aload_n 0, 1) := by decide +kernel
theorem dX9_send_433 : decode cX9_send 433 = .ok (.getfield 29, 3) := by decide +kernel
theorem dX9_send_436 : decode cX9_send 436 = .ok (.iload_n 1, 1) := by decide +kernel
theorem dX9_send_437 : decode cX9_send 437 = .ok (.dup2, 1) := by decide +kernel
theorem dX9_send_438 : decode cX9_send 438 = .ok (.iaload, 1) := by decide +kernel
theorem dX9_send_439 : decode cX9_send 439 = .ok (.aload_n 0, 1) := by decide +kernel
theorem dX9_send_440 : decode cX9_send 440 = .ok (.getfield 86, 3) := by decide +kernel
theorem dX9_send_443 : decode cX9_send 443 = .ok (.iload 5, 2) := by decide +kernel
theorem dX9_send_445 : decode cX9_send 445 = .ok (.iaload, 1) := by decide +kernel
theorem dX9_send_446 : decode cX9_send 446 = .ok (.isub, 1) := by decide +kernel
theorem dX9_send_447 : decode cX9_send 447 = .ok (.iastore, 1) := by decide +kernel
theorem dX9_send_448 : decode cX9_send 448 = .ok (.aload_n 0, 1) := by decide +kernel
theorem dX9_send_449 : decode cX9_send 449 = .ok (.iconst 0, 1) := by decide +kernel
theorem dX9_send_450 : decode cX9_send 450 = .ok (.putfield 202, 3) := by decide +kernel
theorem dX9_send_453 : decode cX9_send 453 = .ok (.aload_n 0, 1) := by decide +kernel
theorem dX9_send_454 : decode cX9_send 454 = .ok (.iload 5, 2) := by decide +kernel
theorem dX9_send_456 : decode cX9_send 456 = .ok (.iload_n 1, 1) := by decide +kernel
theorem dX9_send_457 : decode cX9_send 457 = .ok (.invokevirtual 254, 3) := by decide +kernel
theorem dX9_send_460 : decode cX9_send 460 = .ok (.iload 5, 2) := by decide +kernel
theorem dX9_send_462 : decode cX9_send 462 = .ok (.ireturn, 1) := by decide +kernel
theorem dX9_isCodeAt_0 : decode cX9_isCodeAt 0 = .ok (.aload_n 0, 1) := by decide +kernel
theorem dX9_isCodeAt_1 : decode cX9_isCodeAt 1 = .ok (.getfield 95, 3) := by decide +kernel
theorem dX9_isCodeAt_4 : decode cX9_isCodeAt 4 = .ok (.bipush 24, 2) := by decide +kernel
theorem dX9_isCodeAt_6 : decode cX9_isCodeAt 6 = .ok (.iload_n 1, 1) := by decide +kernel
theorem dX9_isCodeAt_7 : decode cX9_isCodeAt 7 = .ok (.imul, 1) := by decide +kernel
theorem dX9_isCodeAt_8 : decode cX9_isCodeAt 8 = .ok (.iload_n 2, 1) := by decide +kernel
theorem dX9_isCodeAt_9 : decode cX9_isCodeAt 9 = .ok (.iadd, 1) := by decide +kernel
theorem dX9_isCodeAt_10 : decode cX9_isCodeAt 10 = .ok (.iaload, 1) := by decide +kernel
theorem dX9_isCodeAt_11 : decode cX9_isCodeAt 11 = .ok (.ifCond .lt 7, 3) := by decide +kernel
theorem dX9_isCodeAt_14 : decode cX9_isCodeAt 14 = .ok (.iconst 1, 1) := by decide +kernel
theorem dX9_isCodeAt_15 : decode cX9_isCodeAt 15 = .ok (.goto 4, 3) := by decide +kernel
theorem dX9_isCodeAt_18 : decode cX9_isCodeAt 18 = .ok (.iconst 0, 1) := by decide +kernel
theorem dX9_isCodeAt_19 : decode cX9_isCodeAt 19 = .ok (.ireturn, 1) := by decide +kernel
theorem dX9_wrong_0 : decode cX9_wrong 0 = .ok (.aload_n 0, 1) := by decide +kernel
theorem dX9_wrong_1 : decode cX9_wrong 1 = .ok (.aload_n 0, 1) := by decide +kernel
theorem dX9_wrong_2 : decode cX9_wrong 2 = .ok (.iload_n 1, 1) := by decide +kernel
theorem dX9_wrong_3 : decode cX9_wrong 3 = .ok (.invokevirtual 257, 3) := by decide +kernel
theorem dX9_wrong_6 : decode cX9_wrong 6 = .ok (.ifCond .eq 23, 3) := by decide +kernel
theorem dX9_wrong_9 : decode cX9_wrong 9 = .ok (.iload_n 2, 1) := by decide +kernel
theorem dX9_wrong_10 : decode cX9_wrong 10 = .ok (.iconst 0, 1) := by decide +kernel
theorem dX9_wrong_11 : decode cX9_wrong 11 = .ok (.aload_n 0, 1) := by decide +kernel
theorem dX9_wrong_12 : decode cX9_wrong 12 = .ok (.getfield 80, 3) := by decide +kernel
theorem dX9_wrong_15 : decode cX9_wrong 15 = .ok (.iload_n 1, 1) := by decide +kernel
theorem dX9_wrong_16 : decode cX9_wrong 16 = .ok (.iaload, 1) := by decide +kernel
theorem dX9_wrong_17 : decode cX9_wrong 17 = .ok (.iconst 1, 1) := by decide +kernel
theorem dX9_wrong_18 : decode cX9_wrong 18 = .ok (.isub, 1) := by decide +kernel
theorem dX9_wrong_19 : decode cX9_wrong 19 = .ok (.invokestatic 129, 3) := by decide +kernel
theorem dX9_wrong_22 : decode cX9_wrong 22 = .ok (.ifCond .eq 7, 3) := by decide +kernel
theorem dX9_wrong_25 : decode cX9_wrong 25 = .ok (.iconst 1, 1) := by decide +kernel
theorem dX9_wrong_26 : decode cX9_wrong 26 = .ok (.goto 4, 3) := by decide +kernel
theorem dX9_wrong_29 : decode cX9_wrong 29 = .ok (.iconst 0, 1) := by decide +kernel
theorem dX9_wrong_30 : decode cX9_wrong 30 = .ok (.invokevirtual 150, 3) := by decide +kernel
theorem dX9_wrong_33 : decode cX9_wrong 33 = .ok (.ifCond .ne 5, 3) := by decide +kernel
theorem dX9_wrong_36 : decode cX9_wrong 36 = .ok (.iconst 0, 1) := by decide +kernel
theorem dX9_wrong_37 : decode cX9_wrong 37 = .ok (.ireturn, 1) := by decide +kernel
theorem dX9_wrong_38 : decode cX9_wrong 38 = .ok (.iload_n 3, 1) := by decide +kernel
theorem dX9_wrong_39 : decode cX9_wrong 39 = .ok (.iconst 0, 1) := by decide +kernel
theorem dX9_wrong_40 : decode cX9_wrong 40 = .ok (.iconst 4, 1) := by decide +kernel
theorem dX9_wrong_41 : decode cX9_wrong 41 = .ok (.invokestatic 129, 3) := by decide +kernel
theorem dX9_wrong_44 : decode cX9_wrong 44 = .ok (.ifCond .eq 14, 3) := by decide +kernel
theorem dX9_wrong_47 : decode cX9_wrong 47 = .ok (.iload 4, 2) := by decide +kernel
theorem dX9_wrong_49 : decode cX9_wrong 49 = .ok (.iconst 0, 1) := by decide +kernel
theorem dX9_wrong_50 : decode cX9_wrong 50 = .ok (.bipush 25, 2) := by decide +kernel
theorem dX9_wrong_52 : decode cX9_wrong 52 = .ok (.invokestatic 129, 3) := by decide +kernel
theorem dX9_wrong_55 : decode cX9_wrong 55 = .ok (.ifCond .ne 9, 3) := by decide +kernel
theorem dX9_wrong_58 : decode cX9_wrong 58 = .ok (.aload_n 0, 1) := by decide +kernel
theorem dX9_wrong_59 : decode cX9_wrong 59 = .ok (.iconst 2, 1) := by decide +kernel
theorem dX9_wrong_60 : decode cX9_wrong 60 = .ok (.invokevirtual 154, 3) := by decide +kernel
theorem dX9_wrong_63 : decode cX9_wrong 63 = .ok (.ireturn, 1) := by decide +kernel
theorem dX9_wrong_64 : decode cX9_wrong 64 = .ok (.aload_n 0, 1) := by decide +kernel
theorem dX9_wrong_65 : decode cX9_wrong 65 = .ok (.getfield 77, 3) := by decide +kernel
theorem dX9_wrong_68 : decode cX9_wrong 68 = .ok (.iload_n 1, 1) := by decide +kernel
theorem dX9_wrong_69 : decode cX9_wrong 69 = .ok (.iaload, 1) := by decide +kernel
theorem dX9_wrong_70 : decode cX9_wrong 70 = .ok (.ifCond .ne 12, 3) := by decide +kernel
theorem dX9_wrong_73 : decode cX9_wrong 73 = .ok (.aload_n 0, 1) := by decide +kernel
theorem dX9_wrong_74 : decode cX9_wrong 74 = .ok (.iload_n 1, 1) := by decide +kernel
theorem dX9_wrong_75 : decode cX9_wrong 75 = .ok (.iload_n 2, 1) := by decide +kernel
theorem dX9_wrong_76 : decode cX9_wrong 76 = .ok (.invokevirtual 260, 3) := by decide +kernel
theorem dX9_wrong_79 : decode cX9_wrong 79 = .ok (.ifCond .ne 9, 3) := by decide +kernel
theorem dX9_wrong_82 : decode cX9_wrong 82 = .ok (.aload_n 0, 1) := by decide +kernel
theorem dX9_wrong_83 : decode cX9_wrong 83 = .ok (.iconst 3, 1) := by decide +kernel
theorem dX9_wrong_84 : decode cX9_wrong 84 = .ok (.invokevirtual 154, 3) := by decide +kernel
theorem dX9_wrong_87 : decode cX9_wrong 87 = .ok (.ireturn, 1) := by decide +kernel
theorem dX9_wrong_88 : decode cX9_wrong 88 = .ok (.bipush 24, 2) := by decide +kernel
theorem dX9_wrong_90 : decode cX9_wrong 90 = .ok (.iload_n 1, 1) := by decide +kernel
theorem dX9_wrong_91 : decode cX9_wrong 91 = .ok (.imul, 1) := by decide +kernel
theorem dX9_wrong_92 : decode cX9_wrong 92 = .ok (.iload_n 2, 1) := by decide +kernel
theorem dX9_wrong_93 : decode cX9_wrong 93 = .ok (.iadd, 1) := by decide +kernel
theorem dX9_wrong_94 : decode cX9_wrong 94 = .ok (.istore 5, 2) := by decide +kernel
theorem dX9_wrong_96 : decode cX9_wrong 96 = .ok (.iconst 1, 1) := by decide +kernel
theorem dX9_wrong_97 : decode cX9_wrong 97 = .ok (.istore 6, 2) := by decide +kernel
theorem dX9_wrong_99 : decode cX9_wrong 99 = .ok (.iload_n 3, 1) := by decide +kernel
theorem dX9_wrong_100 : decode cX9_wrong 100 = .ok (.istore 7, 2) := by decide +kernel
theorem dX9_wrong_102 : decode cX9_wrong 102 = .ok (.iload 7, 2) := by decide +kernel
theorem dX9_wrong_104 : decode cX9_wrong 104 = .ok (.iconst 4, 1) := by decide +kernel
theorem dX9_wrong_105 : decode cX9_wrong 105 = .ok (.if_icmp .ge 16, 3) := by decide +kernel
theorem dX9_wrong_108 : decode cX9_wrong 108 = .ok (.iload 6, 2) := by decide +kernel
theorem dX9_wrong_110 : decode cX9_wrong 110 = .ok (.bipush 26, 2) := by decide +kernel
theorem dX9_wrong_112 : decode cX9_wrong 112 = .ok (.imul, 1) := by decide +kernel
theorem dX9_wrong_113 : decode cX9_wrong 113 = .ok (.istore 6, 2) := by decide +kernel
theorem dX9_wrong_115 : decode cX9_wrong 115 = .ok (.iinc 7 1, 3) := by decide +kernel
theorem dX9_wrong_118 : decode cX9_wrong 118 = .ok (.goto (-16), 3) := by decide +kernel
theorem dX9_wrong_121 : decode cX9_wrong 121 = .ok (.aload_n 0, 1) := by decide +kernel
theorem dX9_wrong_122 : decode cX9_wrong 122 = .ok (.getfield 98, 3) := by decide +kernel
theorem dX9_wrong_125 : decode cX9_wrong 125 = .ok (.iload 5, 2) := by decide +kernel
theorem dX9_wrong_127 : decode cX9_wrong 127 = .ok (.dup2, 1) := by decide +kernel
theorem dX9_wrong_128 : decode cX9_wrong 128 = .ok (.iaload, 1) := by decide +kernel
theorem dX9_wrong_129 : decode cX9_wrong 129 = .ok (.iload 4, 2) := by decide +kernel
theorem dX9_wrong_131 : decode cX9_wrong 131 = .ok (.aload_n 0, 1) := by decide +kernel
theorem dX9_wrong_132 : decode cX9_wrong 132 = .ok (.getfield 98, 3) := by decide +kernel
theorem dX9_wrong_135 : decode cX9_wrong 135 = .ok (.iload 5, 2) := by decide +kernel
theorem dX9_wrong_137 : decode cX9_wrong 137 = .ok (.iaload, 1) := by decide +kernel
theorem dX9_wrong_138 : decode cX9_wrong 138 = .ok (.iload_n 3, 1) := by decide +kernel
theorem dX9_wrong_139 : decode cX9_wrong 139 = .ok (.invokestatic 143, 3) := by decide +kernel
theorem dX9_wrong_142 : decode cX9_wrong 142 = .ok (.isub, 1) := by decide +kernel
theorem dX9_wrong_143 : decode cX9_wrong 143 = .ok (.iload 6, 2) := by decide +kernel
theorem dX9_wrong_145 : decode cX9_wrong 145 = .ok (.imul, 1) := by decide +kernel
theorem dX9_wrong_146 : decode cX9_wrong 146 = .ok (.iadd, 1) := by decide +kernel
theorem dX9_wrong_147 : decode cX9_wrong 147 = .ok (.iastore, 1) := by decide +kernel
theorem dX9_wrong_148 : decode cX9_wrong 148 = .ok (.aload_n 0, 1) := by decide +kernel
theorem dX9_wrong_149 : decode cX9_wrong 149 = .ok (.getfield 98, 3) := by decide +kernel
theorem dX9_wrong_152 : decode cX9_wrong 152 = .ok (.iload 5, 2) := by decide +kernel
theorem dX9_wrong_154 : decode cX9_wrong 154 = .ok (.iaload, 1) := by decide +kernel
theorem dX9_wrong_155 : decode cX9_wrong 155 = .ok (.ireturn, 1) := by decide +kernel
theorem dX9_behind_0 : decode cX9_behind 0 = .ok (.aload_n 0, 1) := by decide +kernel
theorem dX9_behind_1 : decode cX9_behind 1 = .ok (.getfield 68, 3) := by decide +kernel
theorem dX9_behind_4 : decode cX9_behind 4 = .ok (.iload_n 1, 1) := by decide +kernel
theorem dX9_behind_5 : decode cX9_behind 5 = .ok (.iaload, 1) := by decide +kernel
theorem dX9_behind_6 : decode cX9_behind 6 = .ok (.istore_n 2, 1) := by decide +kernel
theorem dX9_behind_7 : decode cX9_behind 7 = .ok (.iconst 0, 1) := by decide +kernel
theorem dX9_behind_8 : decode cX9_behind 8 = .ok (.istore_n 3, 1) := by decide +kernel
theorem dX9_behind_9 : decode cX9_behind 9 = .ok (.iload_n 3, 1) := by decide +kernel
theorem dX9_behind_10 : decode cX9_behind 10 = .ok (.aload_n 0, 1) := by decide +kernel
theorem dX9_behind_11 : decode cX9_behind 11 = .ok (.getfield 107, 3) := by decide +kernel
theorem dX9_behind_14 : decode cX9_behind 14 = .ok (.iload_n 1, 1) := by decide +kernel
theorem dX9_behind_15 : decode cX9_behind 15 = .ok (.iaload, 1) := by decide +kernel
theorem dX9_behind_16 : decode cX9_behind 16 = .ok (.if_icmp .gt 26, 3) := by decide +kernel
theorem dX9_behind_19 : decode cX9_behind 19 = .ok (.aload_n 0, 1) := by decide +kernel
theorem dX9_behind_20 : decode cX9_behind 20 = .ok (.aload_n 0, 1) := by decide +kernel
theorem dX9_behind_21 : decode cX9_behind 21 = .ok (.getfield 101, 3) := by decide +kernel
theorem dX9_behind_24 : decode cX9_behind 24 = .ok (.bipush 8, 2) := by decide +kernel
theorem dX9_behind_26 : decode cX9_behind 26 = .ok (.iload_n 1, 1) := by decide +kernel
theorem dX9_behind_27 : decode cX9_behind 27 = .ok (.imul, 1) := by decide +kernel
theorem dX9_behind_28 : decode cX9_behind 28 = .ok (.iload_n 3, 1) := by decide +kernel
theorem dX9_behind_29 : decode cX9_behind 29 = .ok (.iadd, 1) := by decide +kernel
theorem dX9_behind_30 : decode cX9_behind 30 = .ok (.iaload, 1) := by decide +kernel
theorem dX9_behind_31 : decode cX9_behind 31 = .ok (.iload_n 2, 1) := by decide +kernel
theorem dX9_behind_32 : decode cX9_behind 32 = .ok (.invokevirtual 248, 3) := by decide +kernel
theorem dX9_behind_35 : decode cX9_behind 35 = .ok (.istore_n 2, 1) := by decide +kernel
theorem dX9_behind_36 : decode cX9_behind 36 = .ok (.iinc 3 1, 3) := by decide +kernel
theorem dX9_behind_39 : decode cX9_behind 39 = .ok (.goto (-30), 3) := by decide +kernel
theorem dX9_behind_42 : decode cX9_behind 42 = .ok (.iload_n 2, 1) := by decide +kernel
theorem dX9_behind_43 : decode cX9_behind 43 = .ok (.ireturn, 1) := by decide +kernel
theorem dX9_carry_0 : decode cX9_carry 0 = .ok (.aload_n 0, 1) := by decide +kernel
theorem dX9_carry_1 : decode cX9_carry 1 = .ok (.getfield 83, 3) := by decide +kernel
theorem dX9_carry_4 : decode cX9_carry 4 = .ok (.iload_n 1, 1) := by decide +kernel
theorem dX9_carry_5 : decode cX9_carry 5 = .ok (.iaload, 1) := by decide +kernel
theorem dX9_carry_6 : decode cX9_carry 6 = .ok (.aload_n 0, 1) := by decide +kernel
theorem dX9_carry_7 : decode cX9_carry 7 = .ok (.getfield 110, 3) := by decide +kernel
theorem dX9_carry_10 : decode cX9_carry 10 = .ok (.iload_n 1, 1) := by decide +kernel
theorem dX9_carry_11 : decode cX9_carry 11 = .ok (.iaload, 1) := by decide +kernel
theorem dX9_carry_12 : decode cX9_carry 12 = .ok (.isub, 1) := by decide +kernel
theorem dX9_carry_13 : decode cX9_carry 13 = .ok (.iload_n 2, 1) := by decide +kernel
theorem dX9_carry_14 : decode cX9_carry 14 = .ok (.if_icmp .ge 19, 3) := by decide +kernel
theorem dX9_carry_17 : decode cX9_carry 17 = .ok (.aload_n 0, 1) := by decide +kernel
theorem dX9_carry_18 : decode cX9_carry 18 = .ok (.getfield 83, 3) := by decide +kernel
theorem dX9_carry_21 : decode cX9_carry 21 = .ok (.iload_n 1, 1) := by decide +kernel
theorem dX9_carry_22 : decode cX9_carry 22 = .ok (.iaload, 1) := by decide +kernel
theorem dX9_carry_23 : decode cX9_carry 23 = .ok (.aload_n 0, 1) := by decide +kernel
theorem dX9_carry_24 : decode cX9_carry 24 = .ok (.getfield 110, 3) := by decide +kernel
theorem dX9_carry_27 : decode cX9_carry 27 = .ok (.iload_n 1, 1) := by decide +kernel
theorem dX9_carry_28 : decode cX9_carry 28 = .ok (.iaload, 1) := by decide +kernel
theorem dX9_carry_29 : decode cX9_carry 29 = .ok (.isub, 1) := by decide +kernel
theorem dX9_carry_30 : decode cX9_carry 30 = .ok (.goto 4, 3) := by decide +kernel
theorem dX9_carry_33 : decode cX9_carry 33 = .ok (.iload_n 2, 1) := by decide +kernel
theorem dX9_carry_34 : decode cX9_carry 34 = .ok (.istore_n 3, 1) := by decide +kernel
theorem dX9_carry_35 : decode cX9_carry 35 = .ok (.aload_n 0, 1) := by decide +kernel
theorem dX9_carry_36 : decode cX9_carry 36 = .ok (.getfield 110, 3) := by decide +kernel
theorem dX9_carry_39 : decode cX9_carry 39 = .ok (.iload_n 1, 1) := by decide +kernel
theorem dX9_carry_40 : decode cX9_carry 40 = .ok (.dup2, 1) := by decide +kernel
theorem dX9_carry_41 : decode cX9_carry 41 = .ok (.iaload, 1) := by decide +kernel
theorem dX9_carry_42 : decode cX9_carry 42 = .ok (.iload_n 3, 1) := by decide +kernel
theorem dX9_carry_43 : decode cX9_carry 43 = .ok (.iadd, 1) := by decide +kernel
theorem dX9_carry_44 : decode cX9_carry 44 = .ok (.iastore, 1) := by decide +kernel
theorem dX9_carry_45 : decode cX9_carry 45 = .ok (.aload_n 0, 1) := by decide +kernel
theorem dX9_carry_46 : decode cX9_carry 46 = .ok (.getfield 110, 3) := by decide +kernel
theorem dX9_carry_49 : decode cX9_carry 49 = .ok (.iload_n 1, 1) := by decide +kernel
theorem dX9_carry_50 : decode cX9_carry 50 = .ok (.iaload, 1) := by decide +kernel
theorem dX9_carry_51 : decode cX9_carry 51 = .ok (.aload_n 0, 1) := by decide +kernel
theorem dX9_carry_52 : decode cX9_carry 52 = .ok (.getfield 83, 3) := by decide +kernel
theorem dX9_carry_55 : decode cX9_carry 55 = .ok (.iload_n 1, 1) := by decide +kernel
theorem dX9_carry_56 : decode cX9_carry 56 = .ok (.iaload, 1) := by decide +kernel
theorem dX9_carry_57 : decode cX9_carry 57 = .ok (.if_icmp .ne 41, 3) := by decide +kernel
theorem dX9_carry_60 : decode cX9_carry 60 = .ok (.aload_n 0, 1) := by decide +kernel
theorem dX9_carry_61 : decode cX9_carry 61 = .ok (.iload_n 1, 1) := by decide +kernel
theorem dX9_carry_62 : decode cX9_carry 62 = .ok (.invokevirtual 263, 3) := by decide +kernel
theorem dX9_carry_65 : decode cX9_carry 65 = .ok (.istore 4, 2) := by decide +kernel
theorem dX9_carry_67 : decode cX9_carry 67 = .ok (.aload_n 0, 1) := by decide +kernel
theorem dX9_carry_68 : decode cX9_carry 68 = .ok (.getfield 107, 3) := by decide +kernel
theorem dX9_carry_71 : decode cX9_carry 71 = .ok (.iload_n 1, 1) := by decide +kernel
theorem dX9_carry_72 : decode cX9_carry 72 = .ok (.dup2, 1) := by decide +kernel
theorem dX9_carry_73 : decode cX9_carry 73 = .ok (.iaload, 1) := by decide +kernel
theorem dX9_carry_74 : decode cX9_carry 74 = .ok (.iconst 1, 1) := by decide +kernel
theorem dX9_carry_75 : decode cX9_carry 75 = .ok (.iadd, 1) := by decide +kernel
theorem dX9_carry_76 : decode cX9_carry 76 = .ok (.iastore, 1) := by decide +kernel
theorem dX9_carry_77 : decode cX9_carry 77 = .ok (.aload_n 0, 1) := by decide +kernel
theorem dX9_carry_78 : decode cX9_carry 78 = .ok (.getfield 110, 3) := by decide +kernel
theorem dX9_carry_81 : decode cX9_carry 81 = .ok (.iload_n 1, 1) := by decide +kernel
theorem dX9_carry_82 : decode cX9_carry 82 = .ok (.iconst 0, 1) := by decide +kernel
theorem dX9_carry_83 : decode cX9_carry 83 = .ok (.iastore, 1) := by decide +kernel
theorem dX9_carry_84 : decode cX9_carry 84 = .ok (.aload_n 0, 1) := by decide +kernel
theorem dX9_carry_85 : decode cX9_carry 85 = .ok (.getfield 113, 3) := by decide +kernel
theorem dX9_carry_88 : decode cX9_carry 88 = .ok (.iload_n 1, 1) := by decide +kernel
theorem dX9_carry_89 : decode cX9_carry 89 = .ok (.iconst 0, 1) := by decide +kernel
theorem dX9_carry_90 : decode cX9_carry 90 = .ok (.bastore, 1) := by decide +kernel
theorem dX9_carry_91 : decode cX9_carry 91 = .ok (.aload_n 0, 1) := by decide +kernel
theorem dX9_carry_92 : decode cX9_carry 92 = .ok (.iload_n 1, 1) := by decide +kernel
theorem dX9_carry_93 : decode cX9_carry 93 = .ok (.iload 4, 2) := by decide +kernel
theorem dX9_carry_95 : decode cX9_carry 95 = .ok (.invokevirtual 254, 3) := by decide +kernel
theorem dX9_carry_98 : decode cX9_carry 98 = .ok (.iload_n 3, 1) := by decide +kernel
theorem dX9_carry_99 : decode cX9_carry 99 = .ok (.ireturn, 1) := by decide +kernel
theorem dX9_carries_0 : decode cX9_carries 0 = .ok (.iconst 0, 1) := by decide +kernel
theorem dX9_carries_1 : decode cX9_carries 1 = .ok (.istore_n 1, 1) := by decide +kernel
theorem dX9_carries_2 : decode cX9_carries 2 = .ok (.iload_n 1, 1) := by decide +kernel
theorem dX9_carries_3 : decode cX9_carries 3 = .ok (.aload_n 0, 1) := by decide +kernel
theorem dX9_carries_4 : decode cX9_carries 4 = .ok (.getfield 139, 3) := by decide +kernel
theorem dX9_carries_7 : decode cX9_carries 7 = .ok (.if_icmp .ge 29, 3) := by decide +kernel
theorem dX9_carries_10 : decode cX9_carries 10 = .ok (.aload_n 0, 1) := by decide +kernel
theorem dX9_carries_11 : decode cX9_carries 11 = .ok (.getfield 113, 3) := by decide +kernel
theorem dX9_carries_14 : decode cX9_carries 14 = .ok (.iload_n 1, 1) := by decide +kernel
theorem dX9_carries_15 : decode cX9_carries 15 = .ok (.aload_n 0, 1) := by decide +kernel
theorem dX9_carries_16 : decode cX9_carries 16 = .ok (.getfield 77, 3) := by decide +kernel
theorem dX9_carries_19 : decode cX9_carries 19 = .ok (.iload_n 1, 1) := by decide +kernel
theorem dX9_carries_20 : decode cX9_carries 20 = .ok (.iaload, 1) := by decide +kernel
theorem dX9_carries_21 : decode cX9_carries 21 = .ok (.ifCond .ne 7, 3) := by decide +kernel
theorem dX9_carries_24 : decode cX9_carries 24 = .ok (.iconst 1, 1) := by decide +kernel
theorem dX9_carries_25 : decode cX9_carries 25 = .ok (.goto 4, 3) := by decide +kernel
theorem dX9_carries_28 : decode cX9_carries 28 = .ok (.iconst 0, 1) := by decide +kernel
theorem dX9_carries_29 : decode cX9_carries 29 = .ok (.bastore, 1) := by decide +kernel
theorem dX9_carries_30 : decode cX9_carries 30 = .ok (.iinc 1 1, 3) := by decide +kernel
theorem dX9_carries_33 : decode cX9_carries 33 = .ok (.goto (-31), 3) := by decide +kernel
theorem dX9_carries_36 : decode cX9_carries 36 = .ok (.iconst 0, 1) := by decide +kernel
theorem dX9_carries_37 : decode cX9_carries 37 = .ok (.istore_n 1, 1) := by decide +kernel
theorem dX9_carries_38 : decode cX9_carries 38 = .ok (.iload_n 1, 1) := by decide +kernel
theorem dX9_carries_39 : decode cX9_carries 39 = .ok (.aload_n 0, 1) := by decide +kernel
theorem dX9_carries_40 : decode cX9_carries 40 = .ok (.getfield 136, 3) := by decide +kernel
theorem dX9_carries_43 : decode cX9_carries 43 = .ok (.if_icmp .ge 120, 3) := by decide +kernel
theorem dX9_carries_46 : decode cX9_carries 46 = .ok (.aload_n 0, 1) := by decide +kernel
theorem dX9_carries_47 : decode cX9_carries 47 = .ok (.getfield 44, 3) := by decide +kernel
theorem dX9_carries_50 : decode cX9_carries 50 = .ok (.iload_n 1, 1) := by decide +kernel
theorem dX9_carries_51 : decode cX9_carries 51 = .ok (.baload, 1) := by decide +kernel
theorem dX9_carries_52 : decode cX9_carries 52 = .ok (.ifCond .eq 7, 3) := by decide +kernel
theorem dX9_carries_55 : decode cX9_carries 55 = .ok (.iconst 0, 1) := by decide +kernel
theorem dX9_carries_56 : decode cX9_carries 56 = .ok (.goto 9, 3) := by decide +kernel
theorem dX9_carries_59 : decode cX9_carries 59 = .ok (.aload_n 0, 1) := by decide +kernel
theorem dX9_carries_60 : decode cX9_carries 60 = .ok (.getfield 41, 3) := by decide +kernel
theorem dX9_carries_63 : decode cX9_carries 63 = .ok (.iload_n 1, 1) := by decide +kernel
theorem dX9_carries_64 : decode cX9_carries 64 = .ok (.iaload, 1) := by decide +kernel
theorem dX9_carries_65 : decode cX9_carries 65 = .ok (.istore_n 2, 1) := by decide +kernel
theorem dX9_carries_66 : decode cX9_carries 66 = .ok (.iconst 2, 1) := by decide +kernel
theorem dX9_carries_67 : decode cX9_carries 67 = .ok (.istore_n 3, 1) := by decide +kernel
theorem dX9_carries_68 : decode cX9_carries 68 = .ok (.iload_n 3, 1) := by decide +kernel
theorem dX9_carries_69 : decode cX9_carries 69 = .ok (.ifCond .lt 88, 3) := by decide +kernel
theorem dX9_carries_72 : decode cX9_carries 72 = .ok (.iconst 0, 1) := by decide +kernel
theorem dX9_carries_73 : decode cX9_carries 73 = .ok (.istore 4, 2) := by decide +kernel
theorem dX9_carries_75 : decode cX9_carries 75 = .ok (.iload 4, 2) := by decide +kernel
theorem dX9_carries_77 : decode cX9_carries 77 = .ok (.aload_n 0, 1) := by decide +kernel
theorem dX9_carries_78 : decode cX9_carries 78 = .ok (.getfield 139, 3) := by decide +kernel
theorem dX9_carries_81 : decode cX9_carries 81 = .ok (.if_icmp .ge 70, 3) := by decide +kernel
theorem dX9_carries_84 : decode cX9_carries 84 = .ok (.iload_n 2, 1) := by decide +kernel
theorem dX9_carries_85 : decode cX9_carries 85 = .ok (.ifCond .le 66, 3) := by decide +kernel
theorem dX9_carries_88 : decode cX9_carries 88 = .ok (.aload_n 0, 1) := by decide +kernel
theorem dX9_carries_89 : decode cX9_carries 89 = .ok (.getfield 113, 3) := by decide +kernel
theorem dX9_carries_92 : decode cX9_carries 92 = .ok (.iload 4, 2) := by decide +kernel
theorem dX9_carries_94 : decode cX9_carries 94 = .ok (.baload, 1) := by decide +kernel
theorem dX9_carries_95 : decode cX9_carries 95 = .ok (.ifCond .eq 28, 3) := by decide +kernel
theorem dX9_carries_98 : decode cX9_carries 98 = .ok (.aload_n 0, 1) := by decide +kernel
theorem dX9_carries_99 : decode cX9_carries 99 = .ok (.getfield 74, 3) := by decide +kernel
theorem dX9_carries_102 : decode cX9_carries 102 = .ok (.iload 4, 2) := by decide +kernel
theorem dX9_carries_104 : decode cX9_carries 104 = .ok (.iaload, 1) := by decide +kernel
theorem dX9_carries_105 : decode cX9_carries 105 = .ok (.iload_n 3, 1) := by decide +kernel
theorem dX9_carries_106 : decode cX9_carries 106 = .ok (.if_icmp .ne 17, 3) := by decide +kernel
theorem dX9_carries_109 : decode cX9_carries 109 = .ok (.aload_n 0, 1) := by decide +kernel
theorem dX9_carries_110 : decode cX9_carries 110 = .ok (.iload 4, 2) := by decide +kernel
theorem dX9_carries_112 : decode cX9_carries 112 = .ok (.invokevirtual 190, 3) := by decide +kernel
theorem dX9_carries_115 : decode cX9_carries 115 = .ok (.iload_n 1, 1) := by decide +kernel
theorem dX9_carries_116 : decode cX9_carries 116 = .ok (.if_icmp .ne 7, 3) := by decide +kernel
theorem dX9_carries_119 : decode cX9_carries 119 = .ok (.iconst 1, 1) := by decide +kernel
theorem dX9_carries_120 : decode cX9_carries 120 = .ok (.goto 4, 3) := by decide +kernel
theorem dX9_carries_123 : decode cX9_carries 123 = .ok (.iconst 0, 1) := by decide +kernel
theorem dX9_carries_124 : decode cX9_carries 124 = .ok (.istore 5, 2) := by decide +kernel
theorem dX9_carries_126 : decode cX9_carries 126 = .ok (.iload_n 2, 1) := by decide +kernel
theorem dX9_carries_127 : decode cX9_carries 127 = .ok (.iload 5, 2) := by decide +kernel
theorem dX9_carries_129 : decode cX9_carries 129 = .ok (.ifCond .eq 13, 3) := by decide +kernel
theorem dX9_carries_132 : decode cX9_carries 132 = .ok (.aload_n 0, 1) := by decide +kernel
theorem dX9_carries_133 : decode cX9_carries 133 = .ok (.iload 4, 2) := by decide +kernel
theorem dX9_carries_135 : decode cX9_carries 135 = .ok (.iload_n 2, 1) := by decide +kernel
theorem dX9_carries_136 : decode cX9_carries 136 = .ok (.invokevirtual 266, 3) := by decide +kernel
theorem dX9_carries_139 : decode cX9_carries 139 = .ok (.goto 4, 3) := by decide +kernel
theorem dX9_carries_142 : decode cX9_carries 142 = .ok (.iconst 0, 1) := by decide +kernel
theorem dX9_carries_143 : decode cX9_carries 143 = .ok (.isub, 1) := by decide +kernel
theorem dX9_carries_144 : decode cX9_carries 144 = .ok (.istore_n 2, 1) := by decide +kernel
theorem dX9_carries_145 : decode cX9_carries 145 = .ok (.iinc 4 1, 3) := by decide +kernel
theorem dX9_carries_148 : decode cX9_carries 148 = .ok (.goto (-73), 3) := by decide +kernel
theorem dX9_carries_151 : decode cX9_carries 151 = .ok (.iinc 3 (-1), 3) := by decide +kernel
theorem dX9_carries_154 : decode cX9_carries 154 = .ok (.goto (-86), 3) := by decide +kernel
theorem dX9_carries_157 : decode cX9_carries 157 = .ok (.iinc 1 1, 3) := by decide +kernel
theorem dX9_carries_160 : decode cX9_carries 160 = .ok (.goto (-122), 3) := by decide +kernel
theorem dX9_carries_163 : decode cX9_carries 163 = .ok (.return_, 1) := by decide +kernel
theorem dX9_pass_0 : decode cX9_pass 0 = .ok (.aload_n 0, 1) := by decide +kernel
theorem dX9_pass_1 : decode cX9_pass 1 = .ok (.iload_n 1, 1) := by decide +kernel
theorem dX9_pass_2 : decode cX9_pass 2 = .ok (.iconst 1, 1) := by decide +kernel
theorem dX9_pass_3 : decode cX9_pass 3 = .ok (.bipush 60, 2) := by decide +kernel
theorem dX9_pass_5 : decode cX9_pass 5 = .ok (.invokestatic 129, 3) := by decide +kernel
theorem dX9_pass_8 : decode cX9_pass 8 = .ok (.invokevirtual 150, 3) := by decide +kernel
theorem dX9_pass_11 : decode cX9_pass 11 = .ok (.ifCond .ne 5, 3) := by decide +kernel
theorem dX9_pass_14 : decode cX9_pass 14 = .ok (.iconst 0, 1) := by decide +kernel
theorem dX9_pass_15 : decode cX9_pass 15 = .ok (.ireturn, 1) := by decide +kernel
theorem dX9_pass_16 : decode cX9_pass 16 = .ok (.aload_n 0, 1) := by decide +kernel
theorem dX9_pass_17 : decode cX9_pass 17 = .ok (.getfield 196, 3) := by decide +kernel
theorem dX9_pass_20 : decode cX9_pass 20 = .ok (.iload_n 1, 1) := by decide +kernel
theorem dX9_pass_21 : decode cX9_pass 21 = .ok (.iadd, 1) := by decide +kernel
theorem dX9_pass_22 : decode cX9_pass 22 = .ok (.ldc 217, 2) := by decide +kernel
theorem dX9_pass_24 : decode cX9_pass 24 = .ok (.if_icmp .le 9, 3) := by decide +kernel
theorem dX9_pass_27 : decode cX9_pass 27 = .ok (.aload_n 0, 1) := by decide +kernel
theorem dX9_pass_28 : decode cX9_pass 28 = .ok (.iconst 2, 1) := by decide +kernel
theorem dX9_pass_29 : decode cX9_pass 29 = .ok (.invokevirtual 154, 3) := by decide +kernel
theorem dX9_pass_32 : decode cX9_pass 32 = .ok (.ireturn, 1) := by decide +kernel
theorem dX9_pass_33 : decode cX9_pass 33 = .ok (.iconst 0, 1) := by decide +kernel
theorem dX9_pass_34 : decode cX9_pass 34 = .ok (.istore_n 2, 1) := by decide +kernel
theorem dX9_pass_35 : decode cX9_pass 35 = .ok (.iload_n 2, 1) := by decide +kernel
theorem dX9_pass_36 : decode cX9_pass 36 = .ok (.iload_n 1, 1) := by decide +kernel
theorem dX9_pass_37 : decode cX9_pass 37 = .ok (.if_icmp .ge 23, 3) := by decide +kernel
theorem dX9_pass_40 : decode cX9_pass 40 = .ok (.aload_n 0, 1) := by decide +kernel
theorem dX9_pass_41 : decode cX9_pass 41 = .ok (.invokevirtual 269, 3) := by decide +kernel
theorem dX9_pass_44 : decode cX9_pass 44 = .ok (.aload_n 0, 1) := by decide +kernel
theorem dX9_pass_45 : decode cX9_pass 45 = .ok (.dup, 1) := by decide +kernel
theorem dX9_pass_46 : decode cX9_pass 46 = .ok (.getfield 196, 3) := by decide +kernel
theorem dX9_pass_49 : decode cX9_pass 49 = .ok (.iconst 1, 1) := by decide +kernel
theorem dX9_pass_50 : decode cX9_pass 50 = .ok (.iadd, 1) := by decide +kernel
theorem dX9_pass_51 : decode cX9_pass 51 = .ok (.putfield 196, 3) := by decide +kernel
theorem dX9_pass_54 : decode cX9_pass 54 = .ok (.iinc 2 1, 3) := by decide +kernel
theorem dX9_pass_57 : decode cX9_pass 57 = .ok (.goto (-22), 3) := by decide +kernel
theorem dX9_pass_60 : decode cX9_pass 60 = .ok (.aload_n 0, 1) := by decide +kernel
theorem dX9_pass_61 : decode cX9_pass 61 = .ok (.getfield 196, 3) := by decide +kernel
theorem dX9_pass_64 : decode cX9_pass 64 = .ok (.ireturn, 1) := by decide +kernel
theorem dX9_rest_0 : decode cX9_rest 0 = .ok (.aload_n 0, 1) := by decide +kernel
theorem dX9_rest_1 : decode cX9_rest 1 = .ok (.iload_n 1, 1) := by decide +kernel
theorem dX9_rest_2 : decode cX9_rest 2 = .ok (.iconst 1, 1) := by decide +kernel
theorem dX9_rest_3 : decode cX9_rest 3 = .ok (.bipush 100, 2) := by decide +kernel
theorem dX9_rest_5 : decode cX9_rest 5 = .ok (.invokestatic 129, 3) := by decide +kernel
theorem dX9_rest_8 : decode cX9_rest 8 = .ok (.invokevirtual 150, 3) := by decide +kernel
theorem dX9_rest_11 : decode cX9_rest 11 = .ok (.ifCond .ne 5, 3) := by decide +kernel
theorem dX9_rest_14 : decode cX9_rest 14 = .ok (.iconst 0, 1) := by decide +kernel
theorem dX9_rest_15 : decode cX9_rest 15 = .ok (.ireturn, 1) := by decide +kernel
theorem dX9_rest_16 : decode cX9_rest 16 = .ok (.aload_n 0, 1) := by decide +kernel
theorem dX9_rest_17 : decode cX9_rest 17 = .ok (.getfield 196, 3) := by decide +kernel
theorem dX9_rest_20 : decode cX9_rest 20 = .ok (.sipush 1440, 3) := by decide +kernel
theorem dX9_rest_23 : decode cX9_rest 23 = .ok (.iload_n 1, 1) := by decide +kernel
theorem dX9_rest_24 : decode cX9_rest 24 = .ok (.imul, 1) := by decide +kernel
theorem dX9_rest_25 : decode cX9_rest 25 = .ok (.iadd, 1) := by decide +kernel
theorem dX9_rest_26 : decode cX9_rest 26 = .ok (.ldc 217, 2) := by decide +kernel
theorem dX9_rest_28 : decode cX9_rest 28 = .ok (.if_icmp .le 9, 3) := by decide +kernel
theorem dX9_rest_31 : decode cX9_rest 31 = .ok (.aload_n 0, 1) := by decide +kernel
theorem dX9_rest_32 : decode cX9_rest 32 = .ok (.iconst 2, 1) := by decide +kernel
theorem dX9_rest_33 : decode cX9_rest 33 = .ok (.invokevirtual 154, 3) := by decide +kernel
theorem dX9_rest_36 : decode cX9_rest 36 = .ok (.ireturn, 1) := by decide +kernel
theorem dX9_rest_37 : decode cX9_rest 37 = .ok (.aload_n 0, 1) := by decide +kernel
theorem dX9_rest_38 : decode cX9_rest 38 = .ok (.dup, 1) := by decide +kernel
theorem dX9_rest_39 : decode cX9_rest 39 = .ok (.getfield 196, 3) := by decide +kernel
theorem dX9_rest_42 : decode cX9_rest 42 = .ok (.sipush 1440, 3) := by decide +kernel
theorem dX9_rest_45 : decode cX9_rest 45 = .ok (.iload_n 1, 1) := by decide +kernel
theorem dX9_rest_46 : decode cX9_rest 46 = .ok (.imul, 1) := by decide +kernel
theorem dX9_rest_47 : decode cX9_rest 47 = .ok (.iadd, 1) := by decide +kernel
theorem dX9_rest_48 : decode cX9_rest 48 = .ok (.putfield 196, 3) := by decide +kernel
theorem dX9_rest_51 : decode cX9_rest 51 = .ok (.aload_n 0, 1) := by decide +kernel
theorem dX9_rest_52 : decode cX9_rest 52 = .ok (.getfield 196, 3) := by decide +kernel
theorem dX9_rest_55 : decode cX9_rest 55 = .ok (.ireturn, 1) := by decide +kernel
theorem dX9_ofMessage_0 : decode cX9_ofMessage 0 = .ok (.aload_n 0, 1) := by decide +kernel
theorem dX9_ofMessage_1 : decode cX9_ofMessage 1 = .ok (.aload_n 0, 1) := by decide +kernel
theorem dX9_ofMessage_2 : decode cX9_ofMessage 2 = .ok (.iload_n 1, 1) := by decide +kernel
theorem dX9_ofMessage_3 : decode cX9_ofMessage 3 = .ok (.invokevirtual 257, 3) := by decide +kernel
theorem dX9_ofMessage_6 : decode cX9_ofMessage 6 = .ok (.invokevirtual 150, 3) := by decide +kernel
theorem dX9_ofMessage_9 : decode cX9_ofMessage 9 = .ok (.ifCond .ne 5, 3) := by decide +kernel
theorem dX9_ofMessage_12 : decode cX9_ofMessage 12 = .ok (.iconst 0, 1) := by decide +kernel
theorem dX9_ofMessage_13 : decode cX9_ofMessage 13 = .ok (.ireturn, 1) := by decide +kernel
theorem dX9_ofMessage_14 : decode cX9_ofMessage 14 = .ok (.iload_n 2, 1) := by decide +kernel
theorem dX9_ofMessage_15 : decode cX9_ofMessage 15 = .ok (.tableswitch 78 0 5 #[37, 44, 51, 58, 65, 71], 37) := by decide +kernel
theorem dX9_ofMessage_52 : decode cX9_ofMessage 52 = .ok (.aload_n 0, 1) := by decide +kernel
theorem dX9_ofMessage_53 : decode cX9_ofMessage 53 = .ok (.getfield 77, 3) := by decide +kernel
theorem dX9_ofMessage_56 : decode cX9_ofMessage 56 = .ok (.iload_n 1, 1) := by decide +kernel
theorem dX9_ofMessage_57 : decode cX9_ofMessage 57 = .ok (.iaload, 1) := by decide +kernel
theorem dX9_ofMessage_58 : decode cX9_ofMessage 58 = .ok (.ireturn, 1) := by decide +kernel
theorem dX9_ofMessage_59 : decode cX9_ofMessage 59 = .ok (.aload_n 0, 1) := by decide +kernel
theorem dX9_ofMessage_60 : decode cX9_ofMessage 60 = .ok (.getfield 80, 3) := by decide +kernel
theorem dX9_ofMessage_63 : decode cX9_ofMessage 63 = .ok (.iload_n 1, 1) := by decide +kernel
theorem dX9_ofMessage_64 : decode cX9_ofMessage 64 = .ok (.iaload, 1) := by decide +kernel
theorem dX9_ofMessage_65 : decode cX9_ofMessage 65 = .ok (.ireturn, 1) := by decide +kernel
theorem dX9_ofMessage_66 : decode cX9_ofMessage 66 = .ok (.aload_n 0, 1) := by decide +kernel
theorem dX9_ofMessage_67 : decode cX9_ofMessage 67 = .ok (.getfield 83, 3) := by decide +kernel
theorem dX9_ofMessage_70 : decode cX9_ofMessage 70 = .ok (.iload_n 1, 1) := by decide +kernel
theorem dX9_ofMessage_71 : decode cX9_ofMessage 71 = .ok (.iaload, 1) := by decide +kernel
theorem dX9_ofMessage_72 : decode cX9_ofMessage 72 = .ok (.ireturn, 1) := by decide +kernel
theorem dX9_ofMessage_73 : decode cX9_ofMessage 73 = .ok (.aload_n 0, 1) := by decide +kernel
theorem dX9_ofMessage_74 : decode cX9_ofMessage 74 = .ok (.getfield 86, 3) := by decide +kernel
theorem dX9_ofMessage_77 : decode cX9_ofMessage 77 = .ok (.iload_n 1, 1) := by decide +kernel
theorem dX9_ofMessage_78 : decode cX9_ofMessage 78 = .ok (.iaload, 1) := by decide +kernel
theorem dX9_ofMessage_79 : decode cX9_ofMessage 79 = .ok (.ireturn, 1) := by decide +kernel
theorem dX9_ofMessage_80 : decode cX9_ofMessage 80 = .ok (.aload_n 0, 1) := by decide +kernel
theorem dX9_ofMessage_81 : decode cX9_ofMessage 81 = .ok (.iload_n 1, 1) := by decide +kernel
theorem dX9_ofMessage_82 : decode cX9_ofMessage 82 = .ok (.invokevirtual 190, 3) := by decide +kernel
theorem dX9_ofMessage_85 : decode cX9_ofMessage 85 = .ok (.ireturn, 1) := by decide +kernel
theorem dX9_ofMessage_86 : decode cX9_ofMessage 86 = .ok (.aload_n 0, 1) := by decide +kernel
theorem dX9_ofMessage_87 : decode cX9_ofMessage 87 = .ok (.getfield 89, 3) := by decide +kernel
theorem dX9_ofMessage_90 : decode cX9_ofMessage 90 = .ok (.iload_n 1, 1) := by decide +kernel
theorem dX9_ofMessage_91 : decode cX9_ofMessage 91 = .ok (.iaload, 1) := by decide +kernel
theorem dX9_ofMessage_92 : decode cX9_ofMessage 92 = .ok (.ireturn, 1) := by decide +kernel
theorem dX9_ofMessage_93 : decode cX9_ofMessage 93 = .ok (.aload_n 0, 1) := by decide +kernel
theorem dX9_ofMessage_94 : decode cX9_ofMessage 94 = .ok (.iconst 2, 1) := by decide +kernel
theorem dX9_ofMessage_95 : decode cX9_ofMessage 95 = .ok (.invokevirtual 154, 3) := by decide +kernel
theorem dX9_ofMessage_98 : decode cX9_ofMessage 98 = .ok (.ireturn, 1) := by decide +kernel
theorem dX9_word_0 : decode cX9_word 0 = .ok (.aload_n 0, 1) := by decide +kernel
theorem dX9_word_1 : decode cX9_word 1 = .ok (.aload_n 0, 1) := by decide +kernel
theorem dX9_word_2 : decode cX9_word 2 = .ok (.iload_n 1, 1) := by decide +kernel
theorem dX9_word_3 : decode cX9_word 3 = .ok (.invokevirtual 257, 3) := by decide +kernel
theorem dX9_word_6 : decode cX9_word 6 = .ok (.ifCond .eq 23, 3) := by decide +kernel
theorem dX9_word_9 : decode cX9_word 9 = .ok (.iload_n 2, 1) := by decide +kernel
theorem dX9_word_10 : decode cX9_word 10 = .ok (.iconst 0, 1) := by decide +kernel
theorem dX9_word_11 : decode cX9_word 11 = .ok (.aload_n 0, 1) := by decide +kernel
theorem dX9_word_12 : decode cX9_word 12 = .ok (.getfield 80, 3) := by decide +kernel
theorem dX9_word_15 : decode cX9_word 15 = .ok (.iload_n 1, 1) := by decide +kernel
theorem dX9_word_16 : decode cX9_word 16 = .ok (.iaload, 1) := by decide +kernel
theorem dX9_word_17 : decode cX9_word 17 = .ok (.iconst 1, 1) := by decide +kernel
theorem dX9_word_18 : decode cX9_word 18 = .ok (.isub, 1) := by decide +kernel
theorem dX9_word_19 : decode cX9_word 19 = .ok (.invokestatic 129, 3) := by decide +kernel
theorem dX9_word_22 : decode cX9_word 22 = .ok (.ifCond .eq 7, 3) := by decide +kernel
theorem dX9_word_25 : decode cX9_word 25 = .ok (.iconst 1, 1) := by decide +kernel
theorem dX9_word_26 : decode cX9_word 26 = .ok (.goto 4, 3) := by decide +kernel
theorem dX9_word_29 : decode cX9_word 29 = .ok (.iconst 0, 1) := by decide +kernel
theorem dX9_word_30 : decode cX9_word 30 = .ok (.invokevirtual 150, 3) := by decide +kernel
theorem dX9_word_33 : decode cX9_word 33 = .ok (.ifCond .ne 5, 3) := by decide +kernel
theorem dX9_word_36 : decode cX9_word 36 = .ok (.iconst 0, 1) := by decide +kernel
theorem dX9_word_37 : decode cX9_word 37 = .ok (.ireturn, 1) := by decide +kernel
theorem dX9_word_38 : decode cX9_word 38 = .ok (.iload_n 3, 1) := by decide +kernel
theorem dX9_word_39 : decode cX9_word 39 = .ok (.ifCond .eq 17, 3) := by decide +kernel
theorem dX9_word_42 : decode cX9_word 42 = .ok (.aload_n 0, 1) := by decide +kernel
theorem dX9_word_43 : decode cX9_word 43 = .ok (.getfield 95, 3) := by decide +kernel
theorem dX9_word_46 : decode cX9_word 46 = .ok (.bipush 24, 2) := by decide +kernel
theorem dX9_word_48 : decode cX9_word 48 = .ok (.iload_n 1, 1) := by decide +kernel
theorem dX9_word_49 : decode cX9_word 49 = .ok (.imul, 1) := by decide +kernel
theorem dX9_word_50 : decode cX9_word 50 = .ok (.iload_n 2, 1) := by decide +kernel
theorem dX9_word_51 : decode cX9_word 51 = .ok (.iadd, 1) := by decide +kernel
theorem dX9_word_52 : decode cX9_word 52 = .ok (.iaload, 1) := by decide +kernel
theorem dX9_word_53 : decode cX9_word 53 = .ok (.goto 14, 3) := by decide +kernel
theorem dX9_word_56 : decode cX9_word 56 = .ok (.aload_n 0, 1) := by decide +kernel
theorem dX9_word_57 : decode cX9_word 57 = .ok (.getfield 98, 3) := by decide +kernel
theorem dX9_word_60 : decode cX9_word 60 = .ok (.bipush 24, 2) := by decide +kernel
theorem dX9_word_62 : decode cX9_word 62 = .ok (.iload_n 1, 1) := by decide +kernel
theorem dX9_word_63 : decode cX9_word 63 = .ok (.imul, 1) := by decide +kernel
theorem dX9_word_64 : decode cX9_word 64 = .ok (.iload_n 2, 1) := by decide +kernel
theorem dX9_word_65 : decode cX9_word 65 = .ok (.iadd, 1) := by decide +kernel
theorem dX9_word_66 : decode cX9_word 66 = .ok (.iaload, 1) := by decide +kernel
theorem dX9_word_67 : decode cX9_word 67 = .ok (.ireturn, 1) := by decide +kernel
theorem dX9_readAs_0 : decode cX9_readAs 0 = .ok (.aload_n 0, 1) := by decide +kernel
theorem dX9_readAs_1 : decode cX9_readAs 1 = .ok (.getfield 98, 3) := by decide +kernel
theorem dX9_readAs_4 : decode cX9_readAs 4 = .ok (.bipush 24, 2) := by decide +kernel
theorem dX9_readAs_6 : decode cX9_readAs 6 = .ok (.iload_n 1, 1) := by decide +kernel
theorem dX9_readAs_7 : decode cX9_readAs 7 = .ok (.imul, 1) := by decide +kernel
theorem dX9_readAs_8 : decode cX9_readAs 8 = .ok (.iload_n 2, 1) := by decide +kernel
theorem dX9_readAs_9 : decode cX9_readAs 9 = .ok (.iadd, 1) := by decide +kernel
theorem dX9_readAs_10 : decode cX9_readAs 10 = .ok (.iaload, 1) := by decide +kernel
theorem dX9_readAs_11 : decode cX9_readAs 11 = .ok (.istore_n 3, 1) := by decide +kernel
theorem dX9_readAs_12 : decode cX9_readAs 12 = .ok (.aload_n 0, 1) := by decide +kernel
theorem dX9_readAs_13 : decode cX9_readAs 13 = .ok (.iload_n 3, 1) := by decide +kernel
theorem dX9_readAs_14 : decode cX9_readAs 14 = .ok (.invokevirtual 181, 3) := by decide +kernel
theorem dX9_readAs_17 : decode cX9_readAs 17 = .ok (.iconst 1, 1) := by decide +kernel
theorem dX9_readAs_18 : decode cX9_readAs 18 = .ok (.if_icmp .eq 5, 3) := by decide +kernel
theorem dX9_readAs_21 : decode cX9_readAs 21 = .ok (.iconst (-1), 1) := by decide +kernel
theorem dX9_readAs_22 : decode cX9_readAs 22 = .ok (.ireturn, 1) := by decide +kernel
theorem dX9_readAs_23 : decode cX9_readAs 23 = .ok (.aload_n 0, 1) := by decide +kernel
theorem dX9_readAs_24 : decode cX9_readAs 24 = .ok (.iload_n 3, 1) := by decide +kernel
theorem dX9_readAs_25 : decode cX9_readAs 25 = .ok (.iconst 0, 1) := by decide +kernel
theorem dX9_readAs_26 : decode cX9_readAs 26 = .ok (.invokevirtual 178, 3) := by decide +kernel
theorem dX9_readAs_29 : decode cX9_readAs 29 = .ok (.aload_n 0, 1) := by decide +kernel
theorem dX9_readAs_30 : decode cX9_readAs 30 = .ok (.getfield 23, 3) := by decide +kernel
theorem dX9_readAs_33 : decode cX9_readAs 33 = .ok (.aload_n 0, 1) := by decide +kernel
theorem dX9_readAs_34 : decode cX9_readAs 34 = .ok (.getfield 71, 3) := by decide +kernel
theorem dX9_readAs_37 : decode cX9_readAs 37 = .ok (.iload_n 1, 1) := by decide +kernel
theorem dX9_readAs_38 : decode cX9_readAs 38 = .ok (.iaload, 1) := by decide +kernel
theorem dX9_readAs_39 : decode cX9_readAs 39 = .ok (.iaload, 1) := by decide +kernel
theorem dX9_readAs_40 : decode cX9_readAs 40 = .ok (.aload_n 0, 1) := by decide +kernel
theorem dX9_readAs_41 : decode cX9_readAs 41 = .ok (.getfield 168, 3) := by decide +kernel
theorem dX9_readAs_44 : decode cX9_readAs 44 = .ok (.irem, 1) := by decide +kernel
theorem dX9_readAs_45 : decode cX9_readAs 45 = .ok (.isub, 1) := by decide +kernel
theorem dX9_readAs_46 : decode cX9_readAs 46 = .ok (.istore 4, 2) := by decide +kernel
theorem dX9_readAs_48 : decode cX9_readAs 48 = .ok (.iload 4, 2) := by decide +kernel
theorem dX9_readAs_50 : decode cX9_readAs 50 = .ok (.ifCond .ge 13, 3) := by decide +kernel
theorem dX9_readAs_53 : decode cX9_readAs 53 = .ok (.iload 4, 2) := by decide +kernel
theorem dX9_readAs_55 : decode cX9_readAs 55 = .ok (.aload_n 0, 1) := by decide +kernel
theorem dX9_readAs_56 : decode cX9_readAs 56 = .ok (.getfield 168, 3) := by decide +kernel
theorem dX9_readAs_59 : decode cX9_readAs 59 = .ok (.iadd, 1) := by decide +kernel
theorem dX9_readAs_60 : decode cX9_readAs 60 = .ok (.goto 5, 3) := by decide +kernel
theorem dX9_readAs_63 : decode cX9_readAs 63 = .ok (.iload 4, 2) := by decide +kernel
theorem dX9_readAs_65 : decode cX9_readAs 65 = .ok (.ireturn, 1) := by decide +kernel
theorem dX9_read_0 : decode cX9_read 0 = .ok (.aload_n 0, 1) := by decide +kernel
theorem dX9_read_1 : decode cX9_read 1 = .ok (.aload_n 0, 1) := by decide +kernel
theorem dX9_read_2 : decode cX9_read 2 = .ok (.iload_n 1, 1) := by decide +kernel
theorem dX9_read_3 : decode cX9_read 3 = .ok (.invokevirtual 257, 3) := by decide +kernel
theorem dX9_read_6 : decode cX9_read 6 = .ok (.ifCond .eq 11, 3) := by decide +kernel
theorem dX9_read_9 : decode cX9_read 9 = .ok (.iload_n 2, 1) := by decide +kernel
theorem dX9_read_10 : decode cX9_read 10 = .ok (.ifCond .lt 7, 3) := by decide +kernel
theorem dX9_read_13 : decode cX9_read 13 = .ok (.iconst 1, 1) := by decide +kernel
theorem dX9_read_14 : decode cX9_read 14 = .ok (.goto 4, 3) := by decide +kernel
theorem dX9_read_17 : decode cX9_read 17 = .ok (.iconst 0, 1) := by decide +kernel
theorem dX9_read_18 : decode cX9_read 18 = .ok (.invokevirtual 150, 3) := by decide +kernel
theorem dX9_read_21 : decode cX9_read 21 = .ok (.ifCond .ne 5, 3) := by decide +kernel
theorem dX9_read_24 : decode cX9_read 24 = .ok (.iconst 0, 1) := by decide +kernel
theorem dX9_read_25 : decode cX9_read 25 = .ok (.ireturn, 1) := by decide +kernel
theorem dX9_read_26 : decode cX9_read 26 = .ok (.iload_n 2, 1) := by decide +kernel
theorem dX9_read_27 : decode cX9_read 27 = .ok (.istore_n 3, 1) := by decide +kernel
theorem dX9_read_28 : decode cX9_read 28 = .ok (.iconst 0, 1) := by decide +kernel
theorem dX9_read_29 : decode cX9_read 29 = .ok (.istore 4, 2) := by decide +kernel
theorem dX9_read_31 : decode cX9_read 31 = .ok (.iload 4, 2) := by decide +kernel
theorem dX9_read_33 : decode cX9_read 33 = .ok (.aload_n 0, 1) := by decide +kernel
theorem dX9_read_34 : decode cX9_read 34 = .ok (.getfield 80, 3) := by decide +kernel
theorem dX9_read_37 : decode cX9_read 37 = .ok (.iload_n 1, 1) := by decide +kernel
theorem dX9_read_38 : decode cX9_read 38 = .ok (.iaload, 1) := by decide +kernel
theorem dX9_read_39 : decode cX9_read 39 = .ok (.if_icmp .ge 131, 3) := by decide +kernel
theorem dX9_read_42 : decode cX9_read 42 = .ok (.aload_n 0, 1) := by decide +kernel
theorem dX9_read_43 : decode cX9_read 43 = .ok (.iload_n 1, 1) := by decide +kernel
theorem dX9_read_44 : decode cX9_read 44 = .ok (.iload 4, 2) := by decide +kernel
theorem dX9_read_46 : decode cX9_read 46 = .ok (.invokevirtual 260, 3) := by decide +kernel
theorem dX9_read_49 : decode cX9_read 49 = .ok (.ifCond .ne 30, 3) := by decide +kernel
theorem dX9_read_52 : decode cX9_read 52 = .ok (.iload_n 3, 1) := by decide +kernel
theorem dX9_read_53 : decode cX9_read 53 = .ok (.ifCond .ne 20, 3) := by decide +kernel
theorem dX9_read_56 : decode cX9_read 56 = .ok (.iconst (-1), 1) := by decide +kernel
theorem dX9_read_57 : decode cX9_read 57 = .ok (.aload_n 0, 1) := by decide +kernel
theorem dX9_read_58 : decode cX9_read 58 = .ok (.getfield 98, 3) := by decide +kernel
theorem dX9_read_61 : decode cX9_read 61 = .ok (.bipush 24, 2) := by decide +kernel
theorem dX9_read_63 : decode cX9_read 63 = .ok (.iload_n 1, 1) := by decide +kernel
theorem dX9_read_64 : decode cX9_read 64 = .ok (.imul, 1) := by decide +kernel
theorem dX9_read_65 : decode cX9_read 65 = .ok (.iload 4, 2) := by decide +kernel
theorem dX9_read_67 : decode cX9_read 67 = .ok (.iadd, 1) := by decide +kernel
theorem dX9_read_68 : decode cX9_read 68 = .ok (.iaload, 1) := by decide +kernel
theorem dX9_read_69 : decode cX9_read 69 = .ok (.isub, 1) := by decide +kernel
theorem dX9_read_70 : decode cX9_read 70 = .ok (.iconst 1, 1) := by decide +kernel
theorem dX9_read_71 : decode cX9_read 71 = .ok (.isub, 1) := by decide +kernel
theorem dX9_read_72 : decode cX9_read 72 = .ok (.ireturn, 1) := by decide +kernel
theorem dX9_read_73 : decode cX9_read 73 = .ok (.iinc 3 (-1), 3) := by decide +kernel
theorem dX9_read_76 : decode cX9_read 76 = .ok (.goto 88, 3) := by decide +kernel
theorem dX9_read_79 : decode cX9_read 79 = .ok (.aload_n 0, 1) := by decide +kernel
theorem dX9_read_80 : decode cX9_read 80 = .ok (.iload_n 1, 1) := by decide +kernel
theorem dX9_read_81 : decode cX9_read 81 = .ok (.iload 4, 2) := by decide +kernel
theorem dX9_read_83 : decode cX9_read 83 = .ok (.invokevirtual 271, 3) := by decide +kernel
theorem dX9_read_86 : decode cX9_read 86 = .ok (.istore 5, 2) := by decide +kernel
theorem dX9_read_88 : decode cX9_read 88 = .ok (.iconst 0, 1) := by decide +kernel
theorem dX9_read_89 : decode cX9_read 89 = .ok (.istore 6, 2) := by decide +kernel
theorem dX9_read_91 : decode cX9_read 91 = .ok (.iload 6, 2) := by decide +kernel
theorem dX9_read_93 : decode cX9_read 93 = .ok (.iconst 4, 1) := by decide +kernel
theorem dX9_read_94 : decode cX9_read 94 = .ok (.if_icmp .ge 70, 3) := by decide +kernel
theorem dX9_read_97 : decode cX9_read 97 = .ok (.iload 5, 2) := by decide +kernel
theorem dX9_read_99 : decode cX9_read 99 = .ok (.iconst (-1), 1) := by decide +kernel
theorem dX9_read_100 : decode cX9_read 100 = .ok (.if_icmp .ne 17, 3) := by decide +kernel
theorem dX9_read_103 : decode cX9_read 103 = .ok (.iload 6, 2) := by decide +kernel
theorem dX9_read_105 : decode cX9_read 105 = .ok (.ifCond .ne 8, 3) := by decide +kernel
theorem dX9_read_108 : decode cX9_read 108 = .ok (.bipush (-2), 2) := by decide +kernel
theorem dX9_read_110 : decode cX9_read 110 = .ok (.goto 19, 3) := by decide +kernel
theorem dX9_read_113 : decode cX9_read 113 = .ok (.iconst (-1), 1) := by decide +kernel
theorem dX9_read_114 : decode cX9_read 114 = .ok (.goto 15, 3) := by decide +kernel
theorem dX9_read_117 : decode cX9_read 117 = .ok (.aload_n 0, 1) := by decide +kernel
theorem dX9_read_118 : decode cX9_read 118 = .ok (.getfield 16, 3) := by decide +kernel
theorem dX9_read_121 : decode cX9_read 121 = .ok (.iconst 4, 1) := by decide +kernel
theorem dX9_read_122 : decode cX9_read 122 = .ok (.iload 5, 2) := by decide +kernel
theorem dX9_read_124 : decode cX9_read 124 = .ok (.imul, 1) := by decide +kernel
theorem dX9_read_125 : decode cX9_read 125 = .ok (.iload 6, 2) := by decide +kernel
theorem dX9_read_127 : decode cX9_read 127 = .ok (.iadd, 1) := by decide +kernel
theorem dX9_read_128 : decode cX9_read 128 = .ok (.iaload, 1) := by decide +kernel
theorem dX9_read_129 : decode cX9_read 129 = .ok (.istore 7, 2) := by decide +kernel
theorem dX9_read_131 : decode cX9_read 131 = .ok (.iload 7, 2) := by decide +kernel
theorem dX9_read_133 : decode cX9_read 133 = .ok (.iconst (-1), 1) := by decide +kernel
theorem dX9_read_134 : decode cX9_read 134 = .ok (.if_icmp .eq 10, 3) := by decide +kernel
theorem dX9_read_137 : decode cX9_read 137 = .ok (.iload_n 3, 1) := by decide +kernel
theorem dX9_read_138 : decode cX9_read 138 = .ok (.ifCond .ne 6, 3) := by decide +kernel
theorem dX9_read_141 : decode cX9_read 141 = .ok (.iload 7, 2) := by decide +kernel
theorem dX9_read_143 : decode cX9_read 143 = .ok (.ireturn, 1) := by decide +kernel
theorem dX9_read_144 : decode cX9_read 144 = .ok (.iload_n 3, 1) := by decide +kernel
theorem dX9_read_145 : decode cX9_read 145 = .ok (.iload 7, 2) := by decide +kernel
theorem dX9_read_147 : decode cX9_read 147 = .ok (.iconst (-1), 1) := by decide +kernel
theorem dX9_read_148 : decode cX9_read 148 = .ok (.if_icmp .ne 7, 3) := by decide +kernel
theorem dX9_read_151 : decode cX9_read 151 = .ok (.iconst 0, 1) := by decide +kernel
theorem dX9_read_152 : decode cX9_read 152 = .ok (.goto 4, 3) := by decide +kernel
theorem dX9_read_155 : decode cX9_read 155 = .ok (.iconst 1, 1) := by decide +kernel
theorem dX9_read_156 : decode cX9_read 156 = .ok (.isub, 1) := by decide +kernel
theorem dX9_read_157 : decode cX9_read 157 = .ok (.istore_n 3, 1) := by decide +kernel
theorem dX9_read_158 : decode cX9_read 158 = .ok (.iinc 6 1, 3) := by decide +kernel
theorem dX9_read_161 : decode cX9_read 161 = .ok (.goto (-70), 3) := by decide +kernel
theorem dX9_read_164 : decode cX9_read 164 = .ok (.iinc 4 1, 3) := by decide +kernel
theorem dX9_read_167 : decode cX9_read 167 = .ok (.goto (-136), 3) := by decide +kernel
theorem dX9_read_170 : decode cX9_read 170 = .ok (.iconst (-1), 1) := by decide +kernel
theorem dX9_read_171 : decode cX9_read 171 = .ok (.ireturn, 1) := by decide +kernel
theorem dX9_claim_0 : decode cX9_claim 0 = .ok (.aload_n 0, 1) := by decide +kernel
theorem dX9_claim_1 : decode cX9_claim 1 = .ok (.aload_n 0, 1) := by decide +kernel
theorem dX9_claim_2 : decode cX9_claim 2 = .ok (.iload_n 1, 1) := by decide +kernel
theorem dX9_claim_3 : decode cX9_claim 3 = .ok (.invokevirtual 257, 3) := by decide +kernel
theorem dX9_claim_6 : decode cX9_claim 6 = .ok (.invokevirtual 150, 3) := by decide +kernel
theorem dX9_claim_9 : decode cX9_claim 9 = .ok (.ifCond .ne 5, 3) := by decide +kernel
theorem dX9_claim_12 : decode cX9_claim 12 = .ok (.iconst 0, 1) := by decide +kernel
theorem dX9_claim_13 : decode cX9_claim 13 = .ok (.ireturn, 1) := by decide +kernel
theorem dX9_claim_14 : decode cX9_claim 14 = .ok (.iconst 0, 1) := by decide +kernel
theorem dX9_claim_15 : decode cX9_claim 15 = .ok (.istore_n 2, 1) := by decide +kernel
theorem dX9_claim_16 : decode cX9_claim 16 = .ok (.iload_n 2, 1) := by decide +kernel
theorem dX9_claim_17 : decode cX9_claim 17 = .ok (.iconst 5, 1) := by decide +kernel
theorem dX9_claim_18 : decode cX9_claim 18 = .ok (.aload_n 0, 1) := by decide +kernel
theorem dX9_claim_19 : decode cX9_claim 19 = .ok (.getfield 80, 3) := by decide +kernel
theorem dX9_claim_22 : decode cX9_claim 22 = .ok (.iload_n 1, 1) := by decide +kernel
theorem dX9_claim_23 : decode cX9_claim 23 = .ok (.iaload, 1) := by decide +kernel
theorem dX9_claim_24 : decode cX9_claim 24 = .ok (.imul, 1) := by decide +kernel
theorem dX9_claim_25 : decode cX9_claim 25 = .ok (.if_icmp .ge 58, 3) := by decide +kernel
theorem dX9_claim_28 : decode cX9_claim 28 = .ok (.bipush 24, 2) := by decide +kernel
theorem dX9_claim_30 : decode cX9_claim 30 = .ok (.iload_n 1, 1) := by decide +kernel
theorem dX9_claim_31 : decode cX9_claim 31 = .ok (.imul, 1) := by decide +kernel
theorem dX9_claim_32 : decode cX9_claim 32 = .ok (.iload_n 2, 1) := by decide +kernel
theorem dX9_claim_33 : decode cX9_claim 33 = .ok (.iconst 5, 1) := by decide +kernel
theorem dX9_claim_34 : decode cX9_claim 34 = .ok (.idiv, 1) := by decide +kernel
theorem dX9_claim_35 : decode cX9_claim 35 = .ok (.iadd, 1) := by decide +kernel
theorem dX9_claim_36 : decode cX9_claim 36 = .ok (.istore_n 3, 1) := by decide +kernel
theorem dX9_claim_37 : decode cX9_claim 37 = .ok (.aload_n 0, 1) := by decide +kernel
theorem dX9_claim_38 : decode cX9_claim 38 = .ok (.iload_n 1, 1) := by decide +kernel
theorem dX9_claim_39 : decode cX9_claim 39 = .ok (.iload_n 2, 1) := by decide +kernel
theorem dX9_claim_40 : decode cX9_claim 40 = .ok (.iconst 5, 1) := by decide +kernel
theorem dX9_claim_41 : decode cX9_claim 41 = .ok (.idiv, 1) := by decide +kernel
theorem dX9_claim_42 : decode cX9_claim 42 = .ok (.invokevirtual 260, 3) := by decide +kernel
theorem dX9_claim_45 : decode cX9_claim 45 = .ok (.ifCond .eq 32, 3) := by decide +kernel
theorem dX9_claim_48 : decode cX9_claim 48 = .ok (.aload_n 0, 1) := by decide +kernel
theorem dX9_claim_49 : decode cX9_claim 49 = .ok (.getfield 95, 3) := by decide +kernel
theorem dX9_claim_52 : decode cX9_claim 52 = .ok (.iload_n 3, 1) := by decide +kernel
theorem dX9_claim_53 : decode cX9_claim 53 = .ok (.iaload, 1) := by decide +kernel
theorem dX9_claim_54 : decode cX9_claim 54 = .ok (.iload_n 2, 1) := by decide +kernel
theorem dX9_claim_55 : decode cX9_claim 55 = .ok (.iconst 5, 1) := by decide +kernel
theorem dX9_claim_56 : decode cX9_claim 56 = .ok (.irem, 1) := by decide +kernel
theorem dX9_claim_57 : decode cX9_claim 57 = .ok (.invokestatic 143, 3) := by decide +kernel
theorem dX9_claim_60 : decode cX9_claim 60 = .ok (.aload_n 0, 1) := by decide +kernel
theorem dX9_claim_61 : decode cX9_claim 61 = .ok (.getfield 98, 3) := by decide +kernel
theorem dX9_claim_64 : decode cX9_claim 64 = .ok (.iload_n 3, 1) := by decide +kernel
theorem dX9_claim_65 : decode cX9_claim 65 = .ok (.iaload, 1) := by decide +kernel
theorem dX9_claim_66 : decode cX9_claim 66 = .ok (.iload_n 2, 1) := by decide +kernel
theorem dX9_claim_67 : decode cX9_claim 67 = .ok (.iconst 5, 1) := by decide +kernel
theorem dX9_claim_68 : decode cX9_claim 68 = .ok (.irem, 1) := by decide +kernel
theorem dX9_claim_69 : decode cX9_claim 69 = .ok (.invokestatic 143, 3) := by decide +kernel
theorem dX9_claim_72 : decode cX9_claim 72 = .ok (.if_icmp .eq 5, 3) := by decide +kernel
theorem dX9_claim_75 : decode cX9_claim 75 = .ok (.iload_n 2, 1) := by decide +kernel
theorem dX9_claim_76 : decode cX9_claim 76 = .ok (.ireturn, 1) := by decide +kernel
theorem dX9_claim_77 : decode cX9_claim 77 = .ok (.iinc 2 1, 3) := by decide +kernel
theorem dX9_claim_80 : decode cX9_claim 80 = .ok (.goto (-64), 3) := by decide +kernel
theorem dX9_claim_83 : decode cX9_claim 83 = .ok (.iconst (-1), 1) := by decide +kernel
theorem dX9_claim_84 : decode cX9_claim 84 = .ok (.ireturn, 1) := by decide +kernel
theorem dX9_account_0 : decode cX9_account 0 = .ok (.aload_n 0, 1) := by decide +kernel
theorem dX9_account_1 : decode cX9_account 1 = .ok (.aload_n 0, 1) := by decide +kernel
theorem dX9_account_2 : decode cX9_account 2 = .ok (.iload_n 1, 1) := by decide +kernel
theorem dX9_account_3 : decode cX9_account 3 = .ok (.invokevirtual 184, 3) := by decide +kernel
theorem dX9_account_6 : decode cX9_account 6 = .ok (.invokevirtual 150, 3) := by decide +kernel
theorem dX9_account_9 : decode cX9_account 9 = .ok (.ifCond .eq 12, 3) := by decide +kernel
theorem dX9_account_12 : decode cX9_account 12 = .ok (.aload_n 0, 1) := by decide +kernel
theorem dX9_account_13 : decode cX9_account 13 = .ok (.getfield 29, 3) := by decide +kernel
theorem dX9_account_16 : decode cX9_account 16 = .ok (.iload_n 1, 1) := by decide +kernel
theorem dX9_account_17 : decode cX9_account 17 = .ok (.iaload, 1) := by decide +kernel
theorem dX9_account_18 : decode cX9_account 18 = .ok (.goto 4, 3) := by decide +kernel
theorem dX9_account_21 : decode cX9_account 21 = .ok (.iconst 0, 1) := by decide +kernel
theorem dX9_account_22 : decode cX9_account 22 = .ok (.ireturn, 1) := by decide +kernel
theorem dX9_accountAnew_0 : decode cX9_accountAnew 0 = .ok (.aload_n 0, 1) := by decide +kernel
theorem dX9_accountAnew_1 : decode cX9_accountAnew 1 = .ok (.aload_n 0, 1) := by decide +kernel
theorem dX9_accountAnew_2 : decode cX9_accountAnew 2 = .ok (.iload_n 1, 1) := by decide +kernel
theorem dX9_accountAnew_3 : decode cX9_accountAnew 3 = .ok (.invokevirtual 184, 3) := by decide +kernel
theorem dX9_accountAnew_6 : decode cX9_accountAnew 6 = .ok (.invokevirtual 150, 3) := by decide +kernel
theorem dX9_accountAnew_9 : decode cX9_accountAnew 9 = .ok (.ifCond .eq 12, 3) := by decide +kernel
theorem dX9_accountAnew_12 : decode cX9_accountAnew 12 = .ok (.aload_n 0, 1) := by decide +kernel
theorem dX9_accountAnew_13 : decode cX9_accountAnew 13 = .ok (.getfield 29, 3) := by decide +kernel
theorem dX9_accountAnew_16 : decode cX9_accountAnew 16 = .ok (.iload_n 1, 1) := by decide +kernel
theorem dX9_accountAnew_17 : decode cX9_accountAnew 17 = .ok (.iaload, 1) := by decide +kernel
theorem dX9_accountAnew_18 : decode cX9_accountAnew 18 = .ok (.goto 4, 3) := by decide +kernel
theorem dX9_accountAnew_21 : decode cX9_accountAnew 21 = .ok (.iconst 0, 1) := by decide +kernel
theorem dX9_accountAnew_22 : decode cX9_accountAnew 22 = .ok (.ireturn, 1) := by decide +kernel
