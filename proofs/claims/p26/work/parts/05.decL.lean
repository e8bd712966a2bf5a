theorem dL_cell_0 : decode cL_cell 0 = .ok (.iload_n 1, 1) := by decide +kernel
theorem dL_cell_1 : decode cL_cell 1 = .ok (.aload_n 0, 1) := by decide +kernel
theorem dL_cell_2 : decode cL_cell 2 = .ok (.arraylength, 1) := by decide +kernel
theorem dL_cell_3 : decode cL_cell 3 = .ok (.if_icmp .ge 9, 3) := by decide +kernel
theorem dL_cell_6 : decode cL_cell 6 = .ok (.aload_n 0, 1) := by decide +kernel
theorem dL_cell_7 : decode cL_cell 7 = .ok (.iload_n 1, 1) := by decide +kernel
theorem dL_cell_8 : decode cL_cell 8 = .ok (.iaload, 1) := by decide +kernel
theorem dL_cell_9 : decode cL_cell 9 = .ok (.goto 10, 3) := by decide +kernel
theorem dL_cell_12 : decode cL_cell 12 = .ok (.ldc 7, 2) := by decide +kernel
theorem dL_cell_14 : decode cL_cell 14 = .ok (.iload_n 1, 1) := by decide +kernel
theorem dL_cell_15 : decode cL_cell 15 = .ok (.bipush 97, 2) := by decide +kernel
theorem dL_cell_17 : decode cL_cell 17 = .ok (.iadd, 1) := by decide +kernel
theorem dL_cell_18 : decode cL_cell 18 = .ok (.imul, 1) := by decide +kernel
theorem dL_cell_19 : decode cL_cell 19 = .ok (.istore_n 2, 1) := by decide +kernel
theorem dL_cell_20 : decode cL_cell 20 = .ok (.iload_n 2, 1) := by decide +kernel
theorem dL_cell_21 : decode cL_cell 21 = .ok (.iload_n 2, 1) := by decide +kernel
theorem dL_cell_22 : decode cL_cell 22 = .ok (.bipush 16, 2) := by decide +kernel
theorem dL_cell_24 : decode cL_cell 24 = .ok (.iushr, 1) := by decide +kernel
theorem dL_cell_25 : decode cL_cell 25 = .ok (.ixor, 1) := by decide +kernel
theorem dL_cell_26 : decode cL_cell 26 = .ok (.ldc 8, 2) := by decide +kernel
theorem dL_cell_28 : decode cL_cell 28 = .ok (.imul, 1) := by decide +kernel
theorem dL_cell_29 : decode cL_cell 29 = .ok (.sipush 293, 3) := by decide +kernel
theorem dL_cell_32 : decode cL_cell 32 = .ok (.iload_n 1, 1) := by decide +kernel
theorem dL_cell_33 : decode cL_cell 33 = .ok (.imul, 1) := by decide +kernel
theorem dL_cell_34 : decode cL_cell 34 = .ok (.iadd, 1) := by decide +kernel
theorem dL_cell_35 : decode cL_cell 35 = .ok (.ireturn, 1) := by decide +kernel
theorem dL_some_0 : decode cL_some 0 = .ok (.iload_n 0, 1) := by decide +kernel
theorem dL_some_1 : decode cL_some 1 = .ok (.iconst 1, 1) := by decide +kernel
theorem dL_some_2 : decode cL_some 2 = .ok (.iushr, 1) := by decide +kernel
theorem dL_some_3 : decode cL_some 3 = .ok (.iload_n 1, 1) := by decide +kernel
theorem dL_some_4 : decode cL_some 4 = .ok (.irem, 1) := by decide +kernel
theorem dL_some_5 : decode cL_some 5 = .ok (.ireturn, 1) := by decide +kernel
theorem dL_call_0 : decode cL_call 0 = .ok (.aload_n 0, 1) := by decide +kernel
theorem dL_call_1 : decode cL_call 1 = .ok (.iload_n 1, 1) := by decide +kernel
theorem dL_call_2 : decode cL_call 2 = .ok (.iload_n 2, 1) := by decide +kernel
theorem dL_call_3 : decode cL_call 3 = .ok (.iload_n 3, 1) := by decide +kernel
theorem dL_call_4 : decode cL_call 4 = .ok (.iload 4, 2) := by decide +kernel
theorem dL_call_6 : decode cL_call 6 = .ok (.iload 5, 2) := by decide +kernel
theorem dL_call_8 : decode cL_call 8 = .ok (.iload 6, 2) := by decide +kernel
theorem dL_call_10 : decode cL_call 10 = .ok (.invokestatic 9, 3) := by decide +kernel
theorem dL_call_13 : decode cL_call 13 = .ok (.ireturn, 1) := by decide +kernel
theorem dL_call_14 : decode cL_call 14 = .ok (.astore 7, 2) := by decide +kernel
theorem dL_call_16 : decode cL_call 16 = .ok (.ldc 17, 2) := by decide +kernel
theorem dL_call_18 : decode cL_call 18 = .ok (.ireturn, 1) := by decide +kernel
theorem dL_call_19 : decode cL_call 19 = .ok (.astore 7, 2) := by decide +kernel
theorem dL_call_21 : decode cL_call 21 = .ok (.ldc 20, 2) := by decide +kernel
theorem dL_call_23 : decode cL_call 23 = .ok (.ireturn, 1) := by decide +kernel
theorem dL_call_24 : decode cL_call 24 = .ok (.astore 7, 2) := by decide +kernel
theorem dL_call_26 : decode cL_call 26 = .ok (.ldc 23, 2) := by decide +kernel
theorem dL_call_28 : decode cL_call 28 = .ok (.ireturn, 1) := by decide +kernel
theorem dL_does_0 : decode cL_does 0 = .ok (.iload_n 1, 1) := by decide +kernel
theorem dL_does_1 : decode cL_does 1 = .ok (.tableswitch 325 0 21 #[103, 109, 122, 128, 135, 140, 151, 167, 191, 198, 209, 216, 222, 238, 258, 269, 275, 281, 288, 306, 313, 319], 103) := by decide +kernel
theorem dL_does_104 : decode cL_does 104 = .ok (.aload_n 0, 1) := by decide +kernel
theorem dL_does_105 : decode cL_does 105 = .ok (.iload_n 2, 1) := by decide +kernel
theorem dL_does_106 : decode cL_does 106 = .ok (.invokevirtual 24, 3) := by decide +kernel
theorem dL_does_109 : decode cL_does 109 = .ok (.ireturn, 1) := by decide +kernel
theorem dL_does_110 : decode cL_does 110 = .ok (.aload_n 0, 1) := by decide +kernel
theorem dL_does_111 : decode cL_does 111 = .ok (.iload_n 2, 1) := by decide +kernel
theorem dL_does_112 : decode cL_does 112 = .ok (.iload_n 3, 1) := by decide +kernel
theorem dL_does_113 : decode cL_does 113 = .ok (.iload 4, 2) := by decide +kernel
theorem dL_does_115 : decode cL_does 115 = .ok (.iload 5, 2) := by decide +kernel
theorem dL_does_117 : decode cL_does 117 = .ok (.iload 6, 2) := by decide +kernel
theorem dL_does_119 : decode cL_does 119 = .ok (.invokevirtual 30, 3) := by decide +kernel
theorem dL_does_122 : decode cL_does 122 = .ok (.ireturn, 1) := by decide +kernel
theorem dL_does_123 : decode cL_does 123 = .ok (.aload_n 0, 1) := by decide +kernel
theorem dL_does_124 : decode cL_does 124 = .ok (.iload_n 2, 1) := by decide +kernel
theorem dL_does_125 : decode cL_does 125 = .ok (.invokevirtual 34, 3) := by decide +kernel
theorem dL_does_128 : decode cL_does 128 = .ok (.ireturn, 1) := by decide +kernel
theorem dL_does_129 : decode cL_does 129 = .ok (.aload_n 0, 1) := by decide +kernel
theorem dL_does_130 : decode cL_does 130 = .ok (.iload_n 2, 1) := by decide +kernel
theorem dL_does_131 : decode cL_does 131 = .ok (.iload_n 3, 1) := by decide +kernel
theorem dL_does_132 : decode cL_does 132 = .ok (.invokevirtual 37, 3) := by decide +kernel
theorem dL_does_135 : decode cL_does 135 = .ok (.ireturn, 1) := by decide +kernel
theorem dL_does_136 : decode cL_does 136 = .ok (.aload_n 0, 1) := by decide +kernel
theorem dL_does_137 : decode cL_does 137 = .ok (.invokevirtual 41, 3) := by decide +kernel
theorem dL_does_140 : decode cL_does 140 = .ok (.ireturn, 1) := by decide +kernel
theorem dL_does_141 : decode cL_does 141 = .ok (.aload_n 0, 1) := by decide +kernel
theorem dL_does_142 : decode cL_does 142 = .ok (.iload_n 2, 1) := by decide +kernel
theorem dL_does_143 : decode cL_does 143 = .ok (.iload_n 3, 1) := by decide +kernel
theorem dL_does_144 : decode cL_does 144 = .ok (.iload 4, 2) := by decide +kernel
theorem dL_does_146 : decode cL_does 146 = .ok (.iload 5, 2) := by decide +kernel
theorem dL_does_148 : decode cL_does 148 = .ok (.invokevirtual 45, 3) := by decide +kernel
theorem dL_does_151 : decode cL_does 151 = .ok (.ireturn, 1) := by decide +kernel
theorem dL_does_152 : decode cL_does 152 = .ok (.aload_n 0, 1) := by decide +kernel
theorem dL_does_153 : decode cL_does 153 = .ok (.iload_n 2, 1) := by decide +kernel
theorem dL_does_154 : decode cL_does 154 = .ok (.iload_n 3, 1) := by decide +kernel
theorem dL_does_155 : decode cL_does 155 = .ok (.iconst 1, 1) := by decide +kernel
theorem dL_does_156 : decode cL_does 156 = .ok (.if_icmp .ne 7, 3) := by decide +kernel
theorem dL_does_159 : decode cL_does 159 = .ok (.iconst 1, 1) := by decide +kernel
theorem dL_does_160 : decode cL_does 160 = .ok (.goto 4, 3) := by decide +kernel
theorem dL_does_163 : decode cL_does 163 = .ok (.iconst 0, 1) := by decide +kernel
theorem dL_does_164 : decode cL_does 164 = .ok (.invokevirtual 49, 3) := by decide +kernel
theorem dL_does_167 : decode cL_does 167 = .ok (.ireturn, 1) := by decide +kernel
theorem dL_does_168 : decode cL_does 168 = .ok (.aload_n 0, 1) := by decide +kernel
theorem dL_does_169 : decode cL_does 169 = .ok (.iload_n 2, 1) := by decide +kernel
theorem dL_does_170 : decode cL_does 170 = .ok (.iload_n 3, 1) := by decide +kernel
theorem dL_does_171 : decode cL_does 171 = .ok (.iconst 1, 1) := by decide +kernel
theorem dL_does_172 : decode cL_does 172 = .ok (.if_icmp .ne 7, 3) := by decide +kernel
theorem dL_does_175 : decode cL_does 175 = .ok (.iconst 1, 1) := by decide +kernel
theorem dL_does_176 : decode cL_does 176 = .ok (.goto 4, 3) := by decide +kernel
theorem dL_does_179 : decode cL_does 179 = .ok (.iconst 0, 1) := by decide +kernel
theorem dL_does_180 : decode cL_does 180 = .ok (.invokevirtual 53, 3) := by decide +kernel
theorem dL_does_183 : decode cL_does 183 = .ok (.ifCond .eq 7, 3) := by decide +kernel
theorem dL_does_186 : decode cL_does 186 = .ok (.iconst 1, 1) := by decide +kernel
theorem dL_does_187 : decode cL_does 187 = .ok (.goto 4, 3) := by decide +kernel
theorem dL_does_190 : decode cL_does 190 = .ok (.iconst 0, 1) := by decide +kernel
theorem dL_does_191 : decode cL_does 191 = .ok (.ireturn, 1) := by decide +kernel
theorem dL_does_192 : decode cL_does 192 = .ok (.aload_n 0, 1) := by decide +kernel
theorem dL_does_193 : decode cL_does 193 = .ok (.iload_n 2, 1) := by decide +kernel
theorem dL_does_194 : decode cL_does 194 = .ok (.iload_n 3, 1) := by decide +kernel
theorem dL_does_195 : decode cL_does 195 = .ok (.invokevirtual 57, 3) := by decide +kernel
theorem dL_does_198 : decode cL_does 198 = .ok (.ireturn, 1) := by decide +kernel
theorem dL_does_199 : decode cL_does 199 = .ok (.aload_n 0, 1) := by decide +kernel
theorem dL_does_200 : decode cL_does 200 = .ok (.iload_n 2, 1) := by decide +kernel
theorem dL_does_201 : decode cL_does 201 = .ok (.iload_n 3, 1) := by decide +kernel
theorem dL_does_202 : decode cL_does 202 = .ok (.iload 4, 2) := by decide +kernel
theorem dL_does_204 : decode cL_does 204 = .ok (.iload 5, 2) := by decide +kernel
theorem dL_does_206 : decode cL_does 206 = .ok (.invokevirtual 60, 3) := by decide +kernel
theorem dL_does_209 : decode cL_does 209 = .ok (.ireturn, 1) := by decide +kernel
theorem dL_does_210 : decode cL_does 210 = .ok (.aload_n 0, 1) := by decide +kernel
theorem dL_does_211 : decode cL_does 211 = .ok (.iload_n 2, 1) := by decide +kernel
theorem dL_does_212 : decode cL_does 212 = .ok (.iload_n 3, 1) := by decide +kernel
theorem dL_does_213 : decode cL_does 213 = .ok (.invokevirtual 63, 3) := by decide +kernel
theorem dL_does_216 : decode cL_does 216 = .ok (.ireturn, 1) := by decide +kernel
theorem dL_does_217 : decode cL_does 217 = .ok (.aload_n 0, 1) := by decide +kernel
theorem dL_does_218 : decode cL_does 218 = .ok (.iload_n 2, 1) := by decide +kernel
theorem dL_does_219 : decode cL_does 219 = .ok (.invokevirtual 66, 3) := by decide +kernel
theorem dL_does_222 : decode cL_does 222 = .ok (.ireturn, 1) := by decide +kernel
theorem dL_does_223 : decode cL_does 223 = .ok (.aload_n 0, 1) := by decide +kernel
theorem dL_does_224 : decode cL_does 224 = .ok (.iload_n 2, 1) := by decide +kernel
theorem dL_does_225 : decode cL_does 225 = .ok (.iload_n 3, 1) := by decide +kernel
theorem dL_does_226 : decode cL_does 226 = .ok (.iconst 1, 1) := by decide +kernel
theorem dL_does_227 : decode cL_does 227 = .ok (.if_icmp .ne 7, 3) := by decide +kernel
theorem dL_does_230 : decode cL_does 230 = .ok (.iconst 1, 1) := by decide +kernel
theorem dL_does_231 : decode cL_does 231 = .ok (.goto 4, 3) := by decide +kernel
theorem dL_does_234 : decode cL_does 234 = .ok (.iconst 0, 1) := by decide +kernel
theorem dL_does_235 : decode cL_does 235 = .ok (.invokevirtual 69, 3) := by decide +kernel
theorem dL_does_238 : decode cL_does 238 = .ok (.ireturn, 1) := by decide +kernel
theorem dL_does_239 : decode cL_does 239 = .ok (.aload_n 0, 1) := by decide +kernel
theorem dL_does_240 : decode cL_does 240 = .ok (.iload_n 2, 1) := by decide +kernel
theorem dL_does_241 : decode cL_does 241 = .ok (.iload_n 3, 1) := by decide +kernel
theorem dL_does_242 : decode cL_does 242 = .ok (.iload 4, 2) := by decide +kernel
theorem dL_does_244 : decode cL_does 244 = .ok (.iload 5, 2) := by decide +kernel
theorem dL_does_246 : decode cL_does 246 = .ok (.iconst 1, 1) := by decide +kernel
theorem dL_does_247 : decode cL_does 247 = .ok (.if_icmp .ne 7, 3) := by decide +kernel
theorem dL_does_250 : decode cL_does 250 = .ok (.iconst 1, 1) := by decide +kernel
theorem dL_does_251 : decode cL_does 251 = .ok (.goto 4, 3) := by decide +kernel
theorem dL_does_254 : decode cL_does 254 = .ok (.iconst 0, 1) := by decide +kernel
theorem dL_does_255 : decode cL_does 255 = .ok (.invokevirtual 72, 3) := by decide +kernel
theorem dL_does_258 : decode cL_does 258 = .ok (.ireturn, 1) := by decide +kernel
theorem dL_does_259 : decode cL_does 259 = .ok (.aload_n 0, 1) := by decide +kernel
theorem dL_does_260 : decode cL_does 260 = .ok (.iload_n 2, 1) := by decide +kernel
theorem dL_does_261 : decode cL_does 261 = .ok (.iload_n 3, 1) := by decide +kernel
theorem dL_does_262 : decode cL_does 262 = .ok (.iload 4, 2) := by decide +kernel
theorem dL_does_264 : decode cL_does 264 = .ok (.iload 5, 2) := by decide +kernel
theorem dL_does_266 : decode cL_does 266 = .ok (.invokevirtual 76, 3) := by decide +kernel
theorem dL_does_269 : decode cL_does 269 = .ok (.ireturn, 1) := by decide +kernel
theorem dL_does_270 : decode cL_does 270 = .ok (.aload_n 0, 1) := by decide +kernel
theorem dL_does_271 : decode cL_does 271 = .ok (.iload_n 2, 1) := by decide +kernel
theorem dL_does_272 : decode cL_does 272 = .ok (.invokevirtual 79, 3) := by decide +kernel
theorem dL_does_275 : decode cL_does 275 = .ok (.ireturn, 1) := by decide +kernel
theorem dL_does_276 : decode cL_does 276 = .ok (.aload_n 0, 1) := by decide +kernel
theorem dL_does_277 : decode cL_does 277 = .ok (.iload_n 2, 1) := by decide +kernel
theorem dL_does_278 : decode cL_does 278 = .ok (.invokevirtual 82, 3) := by decide +kernel
theorem dL_does_281 : decode cL_does 281 = .ok (.ireturn, 1) := by decide +kernel
theorem dL_does_282 : decode cL_does 282 = .ok (.aload_n 0, 1) := by decide +kernel
theorem dL_does_283 : decode cL_does 283 = .ok (.iload_n 2, 1) := by decide +kernel
theorem dL_does_284 : decode cL_does 284 = .ok (.iload_n 3, 1) := by decide +kernel
theorem dL_does_285 : decode cL_does 285 = .ok (.invokevirtual 85, 3) := by decide +kernel
theorem dL_does_288 : decode cL_does 288 = .ok (.ireturn, 1) := by decide +kernel
theorem dL_does_289 : decode cL_does 289 = .ok (.aload_n 0, 1) := by decide +kernel
theorem dL_does_290 : decode cL_does 290 = .ok (.iload_n 2, 1) := by decide +kernel
theorem dL_does_291 : decode cL_does 291 = .ok (.iload_n 3, 1) := by decide +kernel
theorem dL_does_292 : decode cL_does 292 = .ok (.iload 4, 2) := by decide +kernel
theorem dL_does_294 : decode cL_does 294 = .ok (.iconst 1, 1) := by decide +kernel
theorem dL_does_295 : decode cL_does 295 = .ok (.if_icmp .ne 7, 3) := by decide +kernel
theorem dL_does_298 : decode cL_does 298 = .ok (.iconst 1, 1) := by decide +kernel
theorem dL_does_299 : decode cL_does 299 = .ok (.goto 4, 3) := by decide +kernel
theorem dL_does_302 : decode cL_does 302 = .ok (.iconst 0, 1) := by decide +kernel
theorem dL_does_303 : decode cL_does 303 = .ok (.invokevirtual 88, 3) := by decide +kernel
theorem dL_does_306 : decode cL_does 306 = .ok (.ireturn, 1) := by decide +kernel
theorem dL_does_307 : decode cL_does 307 = .ok (.aload_n 0, 1) := by decide +kernel
theorem dL_does_308 : decode cL_does 308 = .ok (.iload_n 2, 1) := by decide +kernel
theorem dL_does_309 : decode cL_does 309 = .ok (.iload_n 3, 1) := by decide +kernel
theorem dL_does_310 : decode cL_does 310 = .ok (.invokevirtual 92, 3) := by decide +kernel
theorem dL_does_313 : decode cL_does 313 = .ok (.ireturn, 1) := by decide +kernel
theorem dL_does_314 : decode cL_does 314 = .ok (.aload_n 0, 1) := by decide +kernel
theorem dL_does_315 : decode cL_does 315 = .ok (.iload_n 2, 1) := by decide +kernel
theorem dL_does_316 : decode cL_does 316 = .ok (.invokevirtual 95, 3) := by decide +kernel
theorem dL_does_319 : decode cL_does 319 = .ok (.ireturn, 1) := by decide +kernel
theorem dL_does_320 : decode cL_does 320 = .ok (.aload_n 0, 1) := by decide +kernel
theorem dL_does_321 : decode cL_does 321 = .ok (.iload_n 2, 1) := by decide +kernel
theorem dL_does_322 : decode cL_does 322 = .ok (.invokevirtual 98, 3) := by decide +kernel
theorem dL_does_325 : decode cL_does 325 = .ok (.ireturn, 1) := by decide +kernel
theorem dL_does_326 : decode cL_does 326 = .ok (.aload_n 0, 1) := by decide +kernel
theorem dL_does_327 : decode cL_does 327 = .ok (.iload_n 2, 1) := by decide +kernel
theorem dL_does_328 : decode cL_does 328 = .ok (.invokevirtual 101, 3) := by decide +kernel
theorem dL_does_331 : decode cL_does 331 = .ok (.ireturn, 1) := by decide +kernel
theorem dL_all_0 : decode cL_all 0 = .ok (.ldc2_w 104, 3) := by decide +kernel
theorem dL_all_3 : decode cL_all 3 = .ok (.lstore_n 2, 1) := by decide +kernel
theorem dL_all_4 : decode cL_all 4 = .ok (.iconst 0, 1) := by decide +kernel
theorem dL_all_5 : decode cL_all 5 = .ok (.istore 4, 2) := by decide +kernel
theorem dL_all_7 : decode cL_all 7 = .ok (.iload 4, 2) := by decide +kernel
theorem dL_all_9 : decode cL_all 9 = .ok (.aload_n 1, 1) := by decide +kernel
theorem dL_all_10 : decode cL_all 10 = .ok (.iconst 3, 1) := by decide +kernel
theorem dL_all_11 : decode cL_all 11 = .ok (.iaload, 1) := by decide +kernel
theorem dL_all_12 : decode cL_all 12 = .ok (.if_icmp .ge 134, 3) := by decide +kernel
theorem dL_all_15 : decode cL_all 15 = .ok (.iconst 0, 1) := by decide +kernel
theorem dL_all_16 : decode cL_all 16 = .ok (.istore 5, 2) := by decide +kernel
theorem dL_all_18 : decode cL_all 18 = .ok (.iload 5, 2) := by decide +kernel
theorem dL_all_20 : decode cL_all 20 = .ok (.bipush 6, 2) := by decide +kernel
theorem dL_all_22 : decode cL_all 22 = .ok (.if_icmp .ge 25, 3) := by decide +kernel
theorem dL_all_25 : decode cL_all 25 = .ok (.lload_n 2, 1) := by decide +kernel
theorem dL_all_26 : decode cL_all 26 = .ok (.ldc2_w 106, 3) := by decide +kernel
theorem dL_all_29 : decode cL_all 29 = .ok (.lmul, 1) := by decide +kernel
theorem dL_all_30 : decode cL_all 30 = .ok (.aload_n 0, 1) := by decide +kernel
theorem dL_all_31 : decode cL_all 31 = .ok (.iload 4, 2) := by decide +kernel
theorem dL_all_33 : decode cL_all 33 = .ok (.iload 5, 2) := by decide +kernel
theorem dL_all_35 : decode cL_all 35 = .ok (.invokevirtual 85, 3) := by decide +kernel
theorem dL_all_38 : decode cL_all 38 = .ok (.i2l, 1) := by decide +kernel
theorem dL_all_39 : decode cL_all 39 = .ok (.ladd, 1) := by decide +kernel
theorem dL_all_40 : decode cL_all 40 = .ok (.lstore_n 2, 1) := by decide +kernel
theorem dL_all_41 : decode cL_all 41 = .ok (.iinc 5 1, 3) := by decide +kernel
theorem dL_all_44 : decode cL_all 44 = .ok (.goto (-26), 3) := by decide +kernel
theorem dL_all_47 : decode cL_all 47 = .ok (.iconst 0, 1) := by decide +kernel
theorem dL_all_48 : decode cL_all 48 = .ok (.istore 5, 2) := by decide +kernel
theorem dL_all_50 : decode cL_all 50 = .ok (.iload 5, 2) := by decide +kernel
theorem dL_all_52 : decode cL_all 52 = .ok (.aload_n 0, 1) := by decide +kernel
theorem dL_all_53 : decode cL_all 53 = .ok (.iload 4, 2) := by decide +kernel
theorem dL_all_55 : decode cL_all 55 = .ok (.iconst 1, 1) := by decide +kernel
theorem dL_all_56 : decode cL_all 56 = .ok (.invokevirtual 85, 3) := by decide +kernel
theorem dL_all_59 : decode cL_all 59 = .ok (.if_icmp .ge 41, 3) := by decide +kernel
theorem dL_all_62 : decode cL_all 62 = .ok (.lload_n 2, 1) := by decide +kernel
theorem dL_all_63 : decode cL_all 63 = .ok (.ldc2_w 106, 3) := by decide +kernel
theorem dL_all_66 : decode cL_all 66 = .ok (.lmul, 1) := by decide +kernel
theorem dL_all_67 : decode cL_all 67 = .ok (.aload_n 0, 1) := by decide +kernel
theorem dL_all_68 : decode cL_all 68 = .ok (.iload 4, 2) := by decide +kernel
theorem dL_all_70 : decode cL_all 70 = .ok (.iload 5, 2) := by decide +kernel
theorem dL_all_72 : decode cL_all 72 = .ok (.iconst 1, 1) := by decide +kernel
theorem dL_all_73 : decode cL_all 73 = .ok (.invokevirtual 88, 3) := by decide +kernel
theorem dL_all_76 : decode cL_all 76 = .ok (.i2l, 1) := by decide +kernel
theorem dL_all_77 : decode cL_all 77 = .ok (.ladd, 1) := by decide +kernel
theorem dL_all_78 : decode cL_all 78 = .ok (.ldc2_w 108, 3) := by decide +kernel
theorem dL_all_81 : decode cL_all 81 = .ok (.lmul, 1) := by decide +kernel
theorem dL_all_82 : decode cL_all 82 = .ok (.aload_n 0, 1) := by decide +kernel
theorem dL_all_83 : decode cL_all 83 = .ok (.iload 4, 2) := by decide +kernel
theorem dL_all_85 : decode cL_all 85 = .ok (.iload 5, 2) := by decide +kernel
theorem dL_all_87 : decode cL_all 87 = .ok (.iconst 0, 1) := by decide +kernel
theorem dL_all_88 : decode cL_all 88 = .ok (.invokevirtual 88, 3) := by decide +kernel
theorem dL_all_91 : decode cL_all 91 = .ok (.i2l, 1) := by decide +kernel
theorem dL_all_92 : decode cL_all 92 = .ok (.ladd, 1) := by decide +kernel
theorem dL_all_93 : decode cL_all 93 = .ok (.lstore_n 2, 1) := by decide +kernel
theorem dL_all_94 : decode cL_all 94 = .ok (.iinc 5 1, 3) := by decide +kernel
theorem dL_all_97 : decode cL_all 97 = .ok (.goto (-47), 3) := by decide +kernel
theorem dL_all_100 : decode cL_all 100 = .ok (.lload_n 2, 1) := by decide +kernel
theorem dL_all_101 : decode cL_all 101 = .ok (.ldc2_w 110, 3) := by decide +kernel
theorem dL_all_104 : decode cL_all 104 = .ok (.lmul, 1) := by decide +kernel
theorem dL_all_105 : decode cL_all 105 = .ok (.aload_n 0, 1) := by decide +kernel
theorem dL_all_106 : decode cL_all 106 = .ok (.iload 4, 2) := by decide +kernel
theorem dL_all_108 : decode cL_all 108 = .ok (.invokevirtual 95, 3) := by decide +kernel
theorem dL_all_111 : decode cL_all 111 = .ok (.i2l, 1) := by decide +kernel
theorem dL_all_112 : decode cL_all 112 = .ok (.ladd, 1) := by decide +kernel
theorem dL_all_113 : decode cL_all 113 = .ok (.ldc2_w 108, 3) := by decide +kernel
theorem dL_all_116 : decode cL_all 116 = .ok (.lmul, 1) := by decide +kernel
theorem dL_all_117 : decode cL_all 117 = .ok (.aload_n 0, 1) := by decide +kernel
theorem dL_all_118 : decode cL_all 118 = .ok (.iload 4, 2) := by decide +kernel
theorem dL_all_120 : decode cL_all 120 = .ok (.iconst 0, 1) := by decide +kernel
theorem dL_all_121 : decode cL_all 121 = .ok (.invokevirtual 92, 3) := by decide +kernel
theorem dL_all_124 : decode cL_all 124 = .ok (.i2l, 1) := by decide +kernel
theorem dL_all_125 : decode cL_all 125 = .ok (.ladd, 1) := by decide +kernel
theorem dL_all_126 : decode cL_all 126 = .ok (.ldc2_w 108, 3) := by decide +kernel
theorem dL_all_129 : decode cL_all 129 = .ok (.lmul, 1) := by decide +kernel
theorem dL_all_130 : decode cL_all 130 = .ok (.aload_n 0, 1) := by decide +kernel
theorem dL_all_131 : decode cL_all 131 = .ok (.iload 4, 2) := by decide +kernel
theorem dL_all_133 : decode cL_all 133 = .ok (.iconst 1, 1) := by decide +kernel
theorem dL_all_134 : decode cL_all 134 = .ok (.invokevirtual 92, 3) := by decide +kernel
theorem dL_all_137 : decode cL_all 137 = .ok (.i2l, 1) := by decide +kernel
theorem dL_all_138 : decode cL_all 138 = .ok (.ladd, 1) := by decide +kernel
theorem dL_all_139 : decode cL_all 139 = .ok (.lstore_n 2, 1) := by decide +kernel
theorem dL_all_140 : decode cL_all 140 = .ok (.iinc 4 1, 3) := by decide +kernel
theorem dL_all_143 : decode cL_all 143 = .ok (.goto (-136), 3) := by decide +kernel
theorem dL_all_146 : decode cL_all 146 = .ok (.iconst 0, 1) := by decide +kernel
theorem dL_all_147 : decode cL_all 147 = .ok (.istore 4, 2) := by decide +kernel
theorem dL_all_149 : decode cL_all 149 = .ok (.iload 4, 2) := by decide +kernel
theorem dL_all_151 : decode cL_all 151 = .ok (.aload_n 1, 1) := by decide +kernel
theorem dL_all_152 : decode cL_all 152 = .ok (.iconst 0, 1) := by decide +kernel
theorem dL_all_153 : decode cL_all 153 = .ok (.iaload, 1) := by decide +kernel
theorem dL_all_154 : decode cL_all 154 = .ok (.if_icmp .ge 51, 3) := by decide +kernel
theorem dL_all_157 : decode cL_all 157 = .ok (.lload_n 2, 1) := by decide +kernel
theorem dL_all_158 : decode cL_all 158 = .ok (.ldc2_w 106, 3) := by decide +kernel
theorem dL_all_161 : decode cL_all 161 = .ok (.lmul, 1) := by decide +kernel
theorem dL_all_162 : decode cL_all 162 = .ok (.aload_n 0, 1) := by decide +kernel
theorem dL_all_163 : decode cL_all 163 = .ok (.iload 4, 2) := by decide +kernel
theorem dL_all_165 : decode cL_all 165 = .ok (.invokevirtual 98, 3) := by decide +kernel
theorem dL_all_168 : decode cL_all 168 = .ok (.i2l, 1) := by decide +kernel
theorem dL_all_169 : decode cL_all 169 = .ok (.ladd, 1) := by decide +kernel
theorem dL_all_170 : decode cL_all 170 = .ok (.ldc2_w 110, 3) := by decide +kernel
theorem dL_all_173 : decode cL_all 173 = .ok (.lmul, 1) := by decide +kernel
theorem dL_all_174 : decode cL_all 174 = .ok (.aload_n 0, 1) := by decide +kernel
theorem dL_all_175 : decode cL_all 175 = .ok (.iload 4, 2) := by decide +kernel
theorem dL_all_177 : decode cL_all 177 = .ok (.iconst 1, 1) := by decide +kernel
theorem dL_all_178 : decode cL_all 178 = .ok (.invokevirtual 69, 3) := by decide +kernel
theorem dL_all_181 : decode cL_all 181 = .ok (.i2l, 1) := by decide +kernel
theorem dL_all_182 : decode cL_all 182 = .ok (.ladd, 1) := by decide +kernel
theorem dL_all_183 : decode cL_all 183 = .ok (.lstore_n 2, 1) := by decide +kernel
theorem dL_all_184 : decode cL_all 184 = .ok (.lload_n 2, 1) := by decide +kernel
theorem dL_all_185 : decode cL_all 185 = .ok (.ldc2_w 110, 3) := by decide +kernel
theorem dL_all_188 : decode cL_all 188 = .ok (.lmul, 1) := by decide +kernel
theorem dL_all_189 : decode cL_all 189 = .ok (.aload_n 0, 1) := by decide +kernel
theorem dL_all_190 : decode cL_all 190 = .ok (.iload 4, 2) := by decide +kernel
theorem dL_all_192 : decode cL_all 192 = .ok (.iconst 0, 1) := by decide +kernel
theorem dL_all_193 : decode cL_all 193 = .ok (.invokevirtual 69, 3) := by decide +kernel
theorem dL_all_196 : decode cL_all 196 = .ok (.i2l, 1) := by decide +kernel
theorem dL_all_197 : decode cL_all 197 = .ok (.ladd, 1) := by decide +kernel
theorem dL_all_198 : decode cL_all 198 = .ok (.lstore_n 2, 1) := by decide +kernel
theorem dL_all_199 : decode cL_all 199 = .ok (.iinc 4 1, 3) := by decide +kernel
theorem dL_all_202 : decode cL_all 202 = .ok (.goto (-53), 3) := by decide +kernel
theorem dL_all_205 : decode cL_all 205 = .ok (.lload_n 2, 1) := by decide +kernel
theorem dL_all_206 : decode cL_all 206 = .ok (.lreturn, 1) := by decide +kernel
theorem dL_both_0 : decode cL_both 0 = .ok (.aload_n 0, 1) := by decide +kernel
theorem dL_both_1 : decode cL_both 1 = .ok (.iload_n 2, 1) := by decide +kernel
theorem dL_both_2 : decode cL_both 2 = .ok (.iload_n 3, 1) := by decide +kernel
theorem dL_both_3 : decode cL_both 3 = .ok (.iload 4, 2) := by decide +kernel
theorem dL_both_5 : decode cL_both 5 = .ok (.iload 5, 2) := by decide +kernel
theorem dL_both_7 : decode cL_both 7 = .ok (.iload 6, 2) := by decide +kernel
theorem dL_both_9 : decode cL_both 9 = .ok (.iload 7, 2) := by decide +kernel
theorem dL_both_11 : decode cL_both 11 = .ok (.invokestatic 112, 3) := by decide +kernel
theorem dL_both_14 : decode cL_both 14 = .ok (.istore 8, 2) := by decide +kernel
theorem dL_both_16 : decode cL_both 16 = .ok (.iload 8, 2) := by decide +kernel
theorem dL_both_18 : decode cL_both 18 = .ok (.aload_n 1, 1) := by decide +kernel
theorem dL_both_19 : decode cL_both 19 = .ok (.iload_n 2, 1) := by decide +kernel
theorem dL_both_20 : decode cL_both 20 = .ok (.iload_n 3, 1) := by decide +kernel
theorem dL_both_21 : decode cL_both 21 = .ok (.iload 4, 2) := by decide +kernel
theorem dL_both_23 : decode cL_both 23 = .ok (.iload 5, 2) := by decide +kernel
theorem dL_both_25 : decode cL_both 25 = .ok (.iload 6, 2) := by decide +kernel
theorem dL_both_27 : decode cL_both 27 = .ok (.iload 7, 2) := by decide +kernel
theorem dL_both_29 : decode cL_both 29 = .ok (.invokestatic 112, 3) := by decide +kernel
theorem dL_both_32 : decode cL_both 32 = .ok (.if_icmp .ne 8, 3) := by decide +kernel
theorem dL_both_35 : decode cL_both 35 = .ok (.iload 8, 2) := by decide +kernel
theorem dL_both_37 : decode cL_both 37 = .ok (.goto 5, 3) := by decide +kernel
theorem dL_both_40 : decode cL_both 40 = .ok (.ldc 115, 2) := by decide +kernel
theorem dL_both_42 : decode cL_both 42 = .ok (.ireturn, 1) := by decide +kernel
theorem dL_parts_0 : decode cL_parts 0 = .ok (.iconst 0, 1) := by decide +kernel
theorem dL_parts_1 : decode cL_parts 1 = .ok (.istore_n 2, 1) := by decide +kernel
theorem dL_parts_2 : decode cL_parts 2 = .ok (.iload_n 0, 1) := by decide +kernel
theorem dL_parts_3 : decode cL_parts 3 = .ok (.istore_n 3, 1) := by decide +kernel
theorem dL_parts_4 : decode cL_parts 4 = .ok (.iload_n 1, 1) := by decide +kernel
theorem dL_parts_5 : decode cL_parts 5 = .ok (.istore 4, 2) := by decide +kernel
theorem dL_parts_7 : decode cL_parts 7 = .ok (.iconst 0, 1) := by decide +kernel
theorem dL_parts_8 : decode cL_parts 8 = .ok (.istore 5, 2) := by decide +kernel
theorem dL_parts_10 : decode cL_parts 10 = .ok (.iload 5, 2) := by decide +kernel
theorem dL_parts_12 : decode cL_parts 12 = .ok (.iconst 5, 1) := by decide +kernel
theorem dL_parts_13 : decode cL_parts 13 = .ok (.if_icmp .ge 41, 3) := by decide +kernel
theorem dL_parts_16 : decode cL_parts 16 = .ok (.iload_n 2, 1) := by decide +kernel
theorem dL_parts_17 : decode cL_parts 17 = .ok (.iload_n 3, 1) := by decide +kernel
theorem dL_parts_18 : decode cL_parts 18 = .ok (.bipush 26, 2) := by decide +kernel
theorem dL_parts_20 : decode cL_parts 20 = .ok (.irem, 1) := by decide +kernel
theorem dL_parts_21 : decode cL_parts 21 = .ok (.iload 4, 2) := by decide +kernel
theorem dL_parts_23 : decode cL_parts 23 = .ok (.bipush 26, 2) := by decide +kernel
theorem dL_parts_25 : decode cL_parts 25 = .ok (.irem, 1) := by decide +kernel
theorem dL_parts_26 : decode cL_parts 26 = .ok (.if_icmp .ne 7, 3) := by decide +kernel
theorem dL_parts_29 : decode cL_parts 29 = .ok (.iconst 0, 1) := by decide +kernel
theorem dL_parts_30 : decode cL_parts 30 = .ok (.goto 4, 3) := by decide +kernel
theorem dL_parts_33 : decode cL_parts 33 = .ok (.iconst 1, 1) := by decide +kernel
theorem dL_parts_34 : decode cL_parts 34 = .ok (.iadd, 1) := by decide +kernel
theorem dL_parts_35 : decode cL_parts 35 = .ok (.istore_n 2, 1) := by decide +kernel
theorem dL_parts_36 : decode cL_parts 36 = .ok (.iload_n 3, 1) := by decide +kernel
theorem dL_parts_37 : decode cL_parts 37 = .ok (.bipush 26, 2) := by decide +kernel
theorem dL_parts_39 : decode cL_parts 39 = .ok (.idiv, 1) := by decide +kernel
theorem dL_parts_40 : decode cL_parts 40 = .ok (.istore_n 3, 1) := by decide +kernel
theorem dL_parts_41 : decode cL_parts 41 = .ok (.iload 4, 2) := by decide +kernel
theorem dL_parts_43 : decode cL_parts 43 = .ok (.bipush 26, 2) := by decide +kernel
theorem dL_parts_45 : decode cL_parts 45 = .ok (.idiv, 1) := by decide +kernel
theorem dL_parts_46 : decode cL_parts 46 = .ok (.istore 4, 2) := by decide +kernel
theorem dL_parts_48 : decode cL_parts 48 = .ok (.iinc 5 1, 3) := by decide +kernel
theorem dL_parts_51 : decode cL_parts 51 = .ok (.goto (-41), 3) := by decide +kernel
theorem dL_parts_54 : decode cL_parts 54 = .ok (.iload_n 2, 1) := by decide +kernel
theorem dL_parts_55 : decode cL_parts 55 = .ok (.ireturn, 1) := by decide +kernel
theorem dL_books_0 : decode cL_books 0 = .ok (.iload_n 3, 1) := by decide +kernel
theorem dL_books_1 : decode cL_books 1 = .ok (.iconst 3, 1) := by decide +kernel
theorem dL_books_2 : decode cL_books 2 = .ok (.invokestatic 116, 3) := by decide +kernel
theorem dL_books_5 : decode cL_books 5 = .ok (.ifCond .ne 219, 3) := by decide +kernel
theorem dL_books_8 : decode cL_books 8 = .ok (.iload 4, 2) := by decide +kernel
theorem dL_books_10 : decode cL_books 10 = .ok (.ldc 119, 2) := by decide +kernel
theorem dL_books_12 : decode cL_books 12 = .ok (.invokestatic 116, 3) := by decide +kernel
theorem dL_books_15 : decode cL_books 15 = .ok (.istore 5, 2) := by decide +kernel
theorem dL_books_17 : decode cL_books 17 = .ok (.aload_n 0, 1) := by decide +kernel
theorem dL_books_18 : decode cL_books 18 = .ok (.aload_n 1, 1) := by decide +kernel
theorem dL_books_19 : decode cL_books 19 = .ok (.iconst 2, 1) := by decide +kernel
theorem dL_books_20 : decode cL_books 20 = .ok (.iload 5, 2) := by decide +kernel
theorem dL_books_22 : decode cL_books 22 = .ok (.iconst 0, 1) := by decide +kernel
theorem dL_books_23 : decode cL_books 23 = .ok (.iconst 0, 1) := by decide +kernel
theorem dL_books_24 : decode cL_books 24 = .ok (.iconst 0, 1) := by decide +kernel
theorem dL_books_25 : decode cL_books 25 = .ok (.iconst 0, 1) := by decide +kernel
theorem dL_books_26 : decode cL_books 26 = .ok (.invokestatic 120, 3) := by decide +kernel
theorem dL_books_29 : decode cL_books 29 = .ok (.istore 6, 2) := by decide +kernel
theorem dL_books_31 : decode cL_books 31 = .ok (.iconst (-1), 1) := by decide +kernel
theorem dL_books_32 : decode cL_books 32 = .ok (.istore 7, 2) := by decide +kernel
theorem dL_books_34 : decode cL_books 34 = .ok (.iconst 0, 1) := by decide +kernel
theorem dL_books_35 : decode cL_books 35 = .ok (.istore 8, 2) := by decide +kernel
theorem dL_books_37 : decode cL_books 37 = .ok (.iload 8, 2) := by decide +kernel
theorem dL_books_39 : decode cL_books 39 = .ok (.aload_n 2, 1) := by decide +kernel
theorem dL_books_40 : decode cL_books 40 = .ok (.iconst 2, 1) := by decide +kernel
theorem dL_books_41 : decode cL_books 41 = .ok (.iaload, 1) := by decide +kernel
theorem dL_books_42 : decode cL_books 42 = .ok (.if_icmp .ge 30, 3) := by decide +kernel
theorem dL_books_45 : decode cL_books 45 = .ok (.aload_n 2, 1) := by decide +kernel
theorem dL_books_46 : decode cL_books 46 = .ok (.bipush 8, 2) := by decide +kernel
theorem dL_books_48 : decode cL_books 48 = .ok (.iload 8, 2) := by decide +kernel
theorem dL_books_50 : decode cL_books 50 = .ok (.iadd, 1) := by decide +kernel
theorem dL_books_51 : decode cL_books 51 = .ok (.iaload, 1) := by decide +kernel
theorem dL_books_52 : decode cL_books 52 = .ok (.iload 5, 2) := by decide +kernel
theorem dL_books_54 : decode cL_books 54 = .ok (.if_icmp .ne 8, 3) := by decide +kernel
theorem dL_books_57 : decode cL_books 57 = .ok (.iload 8, 2) := by decide +kernel
theorem dL_books_59 : decode cL_books 59 = .ok (.goto 5, 3) := by decide +kernel
theorem dL_books_62 : decode cL_books 62 = .ok (.iload 7, 2) := by decide +kernel
theorem dL_books_64 : decode cL_books 64 = .ok (.istore 7, 2) := by decide +kernel
theorem dL_books_66 : decode cL_books 66 = .ok (.iinc 8 1, 3) := by decide +kernel
theorem dL_books_69 : decode cL_books 69 = .ok (.goto (-32), 3) := by decide +kernel
theorem dL_books_72 : decode cL_books 72 = .ok (.iload 6, 2) := by decide +kernel
theorem dL_books_74 : decode cL_books 74 = .ok (.ifCond .lt 51, 3) := by decide +kernel
theorem dL_books_77 : decode cL_books 77 = .ok (.iload 6, 2) := by decide +kernel
theorem dL_books_79 : decode cL_books 79 = .ok (.aload_n 2, 1) := by decide +kernel
theorem dL_books_80 : decode cL_books 80 = .ok (.iconst 2, 1) := by decide +kernel
theorem dL_books_81 : decode cL_books 81 = .ok (.iaload, 1) := by decide +kernel
theorem dL_books_82 : decode cL_books 82 = .ok (.if_icmp .gt 43, 3) := by decide +kernel
theorem dL_books_85 : decode cL_books 85 = .ok (.aload_n 0, 1) := by decide +kernel
theorem dL_books_86 : decode cL_books 86 = .ok (.iload 5, 2) := by decide +kernel
theorem dL_books_88 : decode cL_books 88 = .ok (.iload 6, 2) := by decide +kernel
theorem dL_books_90 : decode cL_books 90 = .ok (.invokevirtual 37, 3) := by decide +kernel
theorem dL_books_93 : decode cL_books 93 = .ok (.iconst (-1), 1) := by decide +kernel
theorem dL_books_94 : decode cL_books 94 = .ok (.if_icmp .ne 31, 3) := by decide +kernel
theorem dL_books_97 : decode cL_books 97 = .ok (.iload 7, 2) := by decide +kernel
theorem dL_books_99 : decode cL_books 99 = .ok (.iconst (-1), 1) := by decide +kernel
theorem dL_books_100 : decode cL_books 100 = .ok (.if_icmp .eq 21, 3) := by decide +kernel
theorem dL_books_103 : decode cL_books 103 = .ok (.iload 6, 2) := by decide +kernel
theorem dL_books_105 : decode cL_books 105 = .ok (.iconst 1, 1) := by decide +kernel
theorem dL_books_106 : decode cL_books 106 = .ok (.if_icmp .ne 19, 3) := by decide +kernel
theorem dL_books_109 : decode cL_books 109 = .ok (.aload_n 0, 1) := by decide +kernel
theorem dL_books_110 : decode cL_books 110 = .ok (.iload 5, 2) := by decide +kernel
theorem dL_books_112 : decode cL_books 112 = .ok (.iconst 0, 1) := by decide +kernel
theorem dL_books_113 : decode cL_books 113 = .ok (.invokevirtual 37, 3) := by decide +kernel
theorem dL_books_116 : decode cL_books 116 = .ok (.iload 7, 2) := by decide +kernel
theorem dL_books_118 : decode cL_books 118 = .ok (.if_icmp .ne 7, 3) := by decide +kernel
theorem dL_books_121 : decode cL_books 121 = .ok (.iconst 1, 1) := by decide +kernel
theorem dL_books_122 : decode cL_books 122 = .ok (.goto 4, 3) := by decide +kernel
theorem dL_books_125 : decode cL_books 125 = .ok (.iconst 0, 1) := by decide +kernel
theorem dL_books_126 : decode cL_books 126 = .ok (.istore 8, 2) := by decide +kernel
theorem dL_books_128 : decode cL_books 128 = .ok (.iconst 0, 1) := by decide +kernel
theorem dL_books_129 : decode cL_books 129 = .ok (.istore 9, 2) := by decide +kernel
theorem dL_books_131 : decode cL_books 131 = .ok (.iload 9, 2) := by decide +kernel
theorem dL_books_133 : decode cL_books 133 = .ok (.iload 6, 2) := by decide +kernel
theorem dL_books_135 : decode cL_books 135 = .ok (.if_icmp .ge 86, 3) := by decide +kernel
theorem dL_books_138 : decode cL_books 138 = .ok (.iload 8, 2) := by decide +kernel
theorem dL_books_140 : decode cL_books 140 = .ok (.ifCond .eq 81, 3) := by decide +kernel
theorem dL_books_143 : decode cL_books 143 = .ok (.aload_n 0, 1) := by decide +kernel
theorem dL_books_144 : decode cL_books 144 = .ok (.iload 5, 2) := by decide +kernel
theorem dL_books_146 : decode cL_books 146 = .ok (.iload 9, 2) := by decide +kernel
theorem dL_books_148 : decode cL_books 148 = .ok (.invokevirtual 37, 3) := by decide +kernel
theorem dL_books_151 : decode cL_books 151 = .ok (.istore 10, 2) := by decide +kernel
theorem dL_books_153 : decode cL_books 153 = .ok (.iload 10, 2) := by decide +kernel
theorem dL_books_155 : decode cL_books 155 = .ok (.ifCond .lt 57, 3) := by decide +kernel
theorem dL_books_158 : decode cL_books 158 = .ok (.iload 10, 2) := by decide +kernel
theorem dL_books_160 : decode cL_books 160 = .ok (.aload_n 2, 1) := by decide +kernel
theorem dL_books_161 : decode cL_books 161 = .ok (.iconst 2, 1) := by decide +kernel
theorem dL_books_162 : decode cL_books 162 = .ok (.iaload, 1) := by decide +kernel
theorem dL_books_163 : decode cL_books 163 = .ok (.if_icmp .ge 49, 3) := by decide +kernel
theorem dL_books_166 : decode cL_books 166 = .ok (.iload 9, 2) := by decide +kernel
theorem dL_books_168 : decode cL_books 168 = .ok (.ifCond .eq 18, 3) := by decide +kernel
theorem dL_books_171 : decode cL_books 171 = .ok (.iload 10, 2) := by decide +kernel
theorem dL_books_173 : decode cL_books 173 = .ok (.aload_n 0, 1) := by decide +kernel
theorem dL_books_174 : decode cL_books 174 = .ok (.iload 5, 2) := by decide +kernel
theorem dL_books_176 : decode cL_books 176 = .ok (.iload 9, 2) := by decide +kernel
theorem dL_books_178 : decode cL_books 178 = .ok (.iconst 1, 1) := by decide +kernel
theorem dL_books_179 : decode cL_books 179 = .ok (.isub, 1) := by decide +kernel
theorem dL_books_180 : decode cL_books 180 = .ok (.invokevirtual 37, 3) := by decide +kernel
theorem dL_books_183 : decode cL_books 183 = .ok (.if_icmp .le 29, 3) := by decide +kernel
theorem dL_books_186 : decode cL_books 186 = .ok (.iload 7, 2) := by decide +kernel
theorem dL_books_188 : decode cL_books 188 = .ok (.iconst (-1), 1) := by decide +kernel
theorem dL_books_189 : decode cL_books 189 = .ok (.if_icmp .ne 19, 3) := by decide +kernel
theorem dL_books_192 : decode cL_books 192 = .ok (.aload_n 2, 1) := by decide +kernel
theorem dL_books_193 : decode cL_books 193 = .ok (.bipush 8, 2) := by decide +kernel
theorem dL_books_195 : decode cL_books 195 = .ok (.iload 10, 2) := by decide +kernel
theorem dL_books_197 : decode cL_books 197 = .ok (.iadd, 1) := by decide +kernel
theorem dL_books_198 : decode cL_books 198 = .ok (.iaload, 1) := by decide +kernel
theorem dL_books_199 : decode cL_books 199 = .ok (.iload 5, 2) := by decide +kernel
theorem dL_books_201 : decode cL_books 201 = .ok (.invokestatic 124, 3) := by decide +kernel
theorem dL_books_204 : decode cL_books 204 = .ok (.iconst 2, 1) := by decide +kernel
theorem dL_books_205 : decode cL_books 205 = .ok (.if_icmp .gt 7, 3) := by decide +kernel
theorem dL_books_208 : decode cL_books 208 = .ok (.iconst 1, 1) := by decide +kernel
theorem dL_books_209 : decode cL_books 209 = .ok (.goto 4, 3) := by decide +kernel
theorem dL_books_212 : decode cL_books 212 = .ok (.iconst 0, 1) := by decide +kernel
theorem dL_books_213 : decode cL_books 213 = .ok (.istore 8, 2) := by decide +kernel
theorem dL_books_215 : decode cL_books 215 = .ok (.iinc 9 1, 3) := by decide +kernel
theorem dL_books_218 : decode cL_books 218 = .ok (.goto (-87), 3) := by decide +kernel
theorem dL_books_221 : decode cL_books 221 = .ok (.iload 8, 2) := by decide +kernel
theorem dL_books_223 : decode cL_books 223 = .ok (.ireturn, 1) := by decide +kernel
theorem dL_books_224 : decode cL_books 224 = .ok (.iload_n 3, 1) := by decide +kernel
theorem dL_books_225 : decode cL_books 225 = .ok (.iconst 3, 1) := by decide +kernel
theorem dL_books_226 : decode cL_books 226 = .ok (.ishr, 1) := by decide +kernel
theorem dL_books_227 : decode cL_books 227 = .ok (.iconst 3, 1) := by decide +kernel
theorem dL_books_228 : decode cL_books 228 = .ok (.invokestatic 116, 3) := by decide +kernel
theorem dL_books_231 : decode cL_books 231 = .ok (.istore 5, 2) := by decide +kernel
theorem dL_books_233 : decode cL_books 233 = .ok (.iload_n 3, 1) := by decide +kernel
theorem dL_books_234 : decode cL_books 234 = .ok (.iconst 5, 1) := by decide +kernel
theorem dL_books_235 : decode cL_books 235 = .ok (.ishr, 1) := by decide +kernel
theorem dL_books_236 : decode cL_books 236 = .ok (.iconst 4, 1) := by decide +kernel
theorem dL_books_237 : decode cL_books 237 = .ok (.invokestatic 116, 3) := by decide +kernel
theorem dL_books_240 : decode cL_books 240 = .ok (.ifCond .ne 41, 3) := by decide +kernel
theorem dL_books_243 : decode cL_books 243 = .ok (.aload_n 2, 1) := by decide +kernel
theorem dL_books_244 : decode cL_books 244 = .ok (.iconst 2, 1) := by decide +kernel
theorem dL_books_245 : decode cL_books 245 = .ok (.iaload, 1) := by decide +kernel
theorem dL_books_246 : decode cL_books 246 = .ok (.ifCond .le 35, 3) := by decide +kernel
theorem dL_books_249 : decode cL_books 249 = .ok (.aload_n 2, 1) := by decide +kernel
theorem dL_books_250 : decode cL_books 250 = .ok (.bipush 8, 2) := by decide +kernel
theorem dL_books_252 : decode cL_books 252 = .ok (.iload 4, 2) := by decide +kernel
theorem dL_books_254 : decode cL_books 254 = .ok (.aload_n 2, 1) := by decide +kernel
theorem dL_books_255 : decode cL_books 255 = .ok (.iconst 2, 1) := by decide +kernel
theorem dL_books_256 : decode cL_books 256 = .ok (.iaload, 1) := by decide +kernel
theorem dL_books_257 : decode cL_books 257 = .ok (.invokestatic 116, 3) := by decide +kernel
theorem dL_books_260 : decode cL_books 260 = .ok (.iadd, 1) := by decide +kernel
theorem dL_books_261 : decode cL_books 261 = .ok (.iaload, 1) := by decide +kernel
theorem dL_books_262 : decode cL_books 262 = .ok (.bipush 26, 2) := by decide +kernel
theorem dL_books_264 : decode cL_books 264 = .ok (.iload 4, 2) := by decide +kernel
theorem dL_books_266 : decode cL_books 266 = .ok (.iconst 5, 1) := by decide +kernel
theorem dL_books_267 : decode cL_books 267 = .ok (.ishr, 1) := by decide +kernel
theorem dL_books_268 : decode cL_books 268 = .ok (.bipush 26, 2) := by decide +kernel
theorem dL_books_270 : decode cL_books 270 = .ok (.invokestatic 116, 3) := by decide +kernel
theorem dL_books_273 : decode cL_books 273 = .ok (.imul, 1) := by decide +kernel
theorem dL_books_274 : decode cL_books 274 = .ok (.iadd, 1) := by decide +kernel
theorem dL_books_275 : decode cL_books 275 = .ok (.ldc 119, 2) := by decide +kernel
theorem dL_books_277 : decode cL_books 277 = .ok (.irem, 1) := by decide +kernel
theorem dL_books_278 : decode cL_books 278 = .ok (.goto 10, 3) := by decide +kernel
theorem dL_books_281 : decode cL_books 281 = .ok (.iload 4, 2) := by decide +kernel
theorem dL_books_283 : decode cL_books 283 = .ok (.ldc 119, 2) := by decide +kernel
theorem dL_books_285 : decode cL_books 285 = .ok (.invokestatic 116, 3) := by decide +kernel
theorem dL_books_288 : decode cL_books 288 = .ok (.istore 6, 2) := by decide +kernel
theorem dL_books_290 : decode cL_books 290 = .ok (.aload_n 0, 1) := by decide +kernel
theorem dL_books_291 : decode cL_books 291 = .ok (.aload_n 1, 1) := by decide +kernel
theorem dL_books_292 : decode cL_books 292 = .ok (.iconst 1, 1) := by decide +kernel
theorem dL_books_293 : decode cL_books 293 = .ok (.iload 6, 2) := by decide +kernel
theorem dL_books_295 : decode cL_books 295 = .ok (.iload 4, 2) := by decide +kernel
theorem dL_books_297 : decode cL_books 297 = .ok (.iconst 2, 1) := by decide +kernel
theorem dL_books_298 : decode cL_books 298 = .ok (.ishr, 1) := by decide +kernel
theorem dL_books_299 : decode cL_books 299 = .ok (.iconst 5, 1) := by decide +kernel
theorem dL_books_300 : decode cL_books 300 = .ok (.invokestatic 116, 3) := by decide +kernel
theorem dL_books_303 : decode cL_books 303 = .ok (.iload 5, 2) := by decide +kernel
theorem dL_books_305 : decode cL_books 305 = .ok (.ifCond .le 15, 3) := by decide +kernel
theorem dL_books_308 : decode cL_books 308 = .ok (.iload 4, 2) := by decide +kernel
theorem dL_books_310 : decode cL_books 310 = .ok (.bipush 7, 2) := by decide +kernel
theorem dL_books_312 : decode cL_books 312 = .ok (.ishr, 1) := by decide +kernel
theorem dL_books_313 : decode cL_books 313 = .ok (.iconst 5, 1) := by decide +kernel
theorem dL_books_314 : decode cL_books 314 = .ok (.invokestatic 116, 3) := by decide +kernel
theorem dL_books_317 : decode cL_books 317 = .ok (.goto 4, 3) := by decide +kernel
theorem dL_books_320 : decode cL_books 320 = .ok (.iconst (-1), 1) := by decide +kernel
theorem dL_books_321 : decode cL_books 321 = .ok (.iload 5, 2) := by decide +kernel
theorem dL_books_323 : decode cL_books 323 = .ok (.iconst 1, 1) := by decide +kernel
theorem dL_books_324 : decode cL_books 324 = .ok (.if_icmp .le 15, 3) := by decide +kernel
theorem dL_books_327 : decode cL_books 327 = .ok (.iload 4, 2) := by decide +kernel
theorem dL_books_329 : decode cL_books 329 = .ok (.bipush 9, 2) := by decide +kernel
theorem dL_books_331 : decode cL_books 331 = .ok (.ishr, 1) := by decide +kernel
theorem dL_books_332 : decode cL_books 332 = .ok (.iconst 5, 1) := by decide +kernel
theorem dL_books_333 : decode cL_books 333 = .ok (.invokestatic 116, 3) := by decide +kernel
theorem dL_books_336 : decode cL_books 336 = .ok (.goto 4, 3) := by decide +kernel
theorem dL_books_339 : decode cL_books 339 = .ok (.iconst (-1), 1) := by decide +kernel
theorem dL_books_340 : decode cL_books 340 = .ok (.iconst (-1), 1) := by decide +kernel
theorem dL_books_341 : decode cL_books 341 = .ok (.invokestatic 120, 3) := by decide +kernel
theorem dL_books_344 : decode cL_books 344 = .ok (.istore 7, 2) := by decide +kernel
theorem dL_books_346 : decode cL_books 346 = .ok (.iconst 0, 1) := by decide +kernel
theorem dL_books_347 : decode cL_books 347 = .ok (.istore 8, 2) := by decide +kernel
theorem dL_books_349 : decode cL_books 349 = .ok (.iconst 0, 1) := by decide +kernel
theorem dL_books_350 : decode cL_books 350 = .ok (.istore 9, 2) := by decide +kernel
theorem dL_books_352 : decode cL_books 352 = .ok (.iload 9, 2) := by decide +kernel
theorem dL_books_354 : decode cL_books 354 = .ok (.aload_n 2, 1) := by decide +kernel
theorem dL_books_355 : decode cL_books 355 = .ok (.iconst 2, 1) := by decide +kernel
theorem dL_books_356 : decode cL_books 356 = .ok (.iaload, 1) := by decide +kernel
theorem dL_books_357 : decode cL_books 357 = .ok (.if_icmp .ge 37, 3) := by decide +kernel
theorem dL_books_360 : decode cL_books 360 = .ok (.iload 8, 2) := by decide +kernel
theorem dL_books_362 : decode cL_books 362 = .ok (.ifCond .ne 19, 3) := by decide +kernel
theorem dL_books_365 : decode cL_books 365 = .ok (.aload_n 2, 1) := by decide +kernel
theorem dL_books_366 : decode cL_books 366 = .ok (.bipush 8, 2) := by decide +kernel
theorem dL_books_368 : decode cL_books 368 = .ok (.iload 9, 2) := by decide +kernel
theorem dL_books_370 : decode cL_books 370 = .ok (.iadd, 1) := by decide +kernel
theorem dL_books_371 : decode cL_books 371 = .ok (.iaload, 1) := by decide +kernel
theorem dL_books_372 : decode cL_books 372 = .ok (.iload 6, 2) := by decide +kernel
theorem dL_books_374 : decode cL_books 374 = .ok (.invokestatic 124, 3) := by decide +kernel
theorem dL_books_377 : decode cL_books 377 = .ok (.iconst 2, 1) := by decide +kernel
theorem dL_books_378 : decode cL_books 378 = .ok (.if_icmp .ge 7, 3) := by decide +kernel
theorem dL_books_381 : decode cL_books 381 = .ok (.iconst 1, 1) := by decide +kernel
theorem dL_books_382 : decode cL_books 382 = .ok (.goto 4, 3) := by decide +kernel
theorem dL_books_385 : decode cL_books 385 = .ok (.iconst 0, 1) := by decide +kernel
theorem dL_books_386 : decode cL_books 386 = .ok (.istore 8, 2) := by decide +kernel
theorem dL_books_388 : decode cL_books 388 = .ok (.iinc 9 1, 3) := by decide +kernel
theorem dL_books_391 : decode cL_books 391 = .ok (.goto (-39), 3) := by decide +kernel
theorem dL_books_394 : decode cL_books 394 = .ok (.iload 7, 2) := by decide +kernel
theorem dL_books_396 : decode cL_books 396 = .ok (.ifCond .lt 20, 3) := by decide +kernel
theorem dL_books_399 : decode cL_books 399 = .ok (.aload_n 2, 1) := by decide +kernel
theorem dL_books_400 : decode cL_books 400 = .ok (.bipush 8, 2) := by decide +kernel
theorem dL_books_402 : decode cL_books 402 = .ok (.aload_n 2, 1) := by decide +kernel
theorem dL_books_403 : decode cL_books 403 = .ok (.iconst 2, 1) := by decide +kernel
theorem dL_books_404 : decode cL_books 404 = .ok (.iaload, 1) := by decide +kernel
theorem dL_books_405 : decode cL_books 405 = .ok (.iadd, 1) := by decide +kernel
theorem dL_books_406 : decode cL_books 406 = .ok (.iload 6, 2) := by decide +kernel
theorem dL_books_408 : decode cL_books 408 = .ok (.iastore, 1) := by decide +kernel
theorem dL_books_409 : decode cL_books 409 = .ok (.aload_n 2, 1) := by decide +kernel
theorem dL_books_410 : decode cL_books 410 = .ok (.iconst 2, 1) := by decide +kernel
theorem dL_books_411 : decode cL_books 411 = .ok (.dup2, 1) := by decide +kernel
theorem dL_books_412 : decode cL_books 412 = .ok (.iaload, 1) := by decide +kernel
theorem dL_books_413 : decode cL_books 413 = .ok (.iconst 1, 1) := by decide +kernel
theorem dL_books_414 : decode cL_books 414 = .ok (.iadd, 1) := by decide +kernel
theorem dL_books_415 : decode cL_books 415 = .ok (.iastore, 1) := by decide +kernel
theorem dL_books_416 : decode cL_books 416 = .ok (.iload 7, 2) := by decide +kernel
theorem dL_books_418 : decode cL_books 418 = .ok (.ifCond .lt 48, 3) := by decide +kernel
theorem dL_books_421 : decode cL_books 421 = .ok (.iload 8, 2) := by decide +kernel
theorem dL_books_423 : decode cL_books 423 = .ok (.ifCond .ne 39, 3) := by decide +kernel
theorem dL_books_426 : decode cL_books 426 = .ok (.iload 7, 2) := by decide +kernel
theorem dL_books_428 : decode cL_books 428 = .ok (.aload_n 2, 1) := by decide +kernel
theorem dL_books_429 : decode cL_books 429 = .ok (.iconst 2, 1) := by decide +kernel
theorem dL_books_430 : decode cL_books 430 = .ok (.iaload, 1) := by decide +kernel
theorem dL_books_431 : decode cL_books 431 = .ok (.iconst 1, 1) := by decide +kernel
theorem dL_books_432 : decode cL_books 432 = .ok (.isub, 1) := by decide +kernel
theorem dL_books_433 : decode cL_books 433 = .ok (.if_icmp .ne 29, 3) := by decide +kernel
theorem dL_books_436 : decode cL_books 436 = .ok (.aload_n 0, 1) := by decide +kernel
theorem dL_books_437 : decode cL_books 437 = .ok (.iload 6, 2) := by decide +kernel
theorem dL_books_439 : decode cL_books 439 = .ok (.iconst 0, 1) := by decide +kernel
theorem dL_books_440 : decode cL_books 440 = .ok (.invokevirtual 37, 3) := by decide +kernel
theorem dL_books_443 : decode cL_books 443 = .ok (.iload 7, 2) := by decide +kernel
theorem dL_books_445 : decode cL_books 445 = .ok (.if_icmp .ne 17, 3) := by decide +kernel
theorem dL_books_448 : decode cL_books 448 = .ok (.aload_n 0, 1) := by decide +kernel
theorem dL_books_449 : decode cL_books 449 = .ok (.iload 6, 2) := by decide +kernel
theorem dL_books_451 : decode cL_books 451 = .ok (.invokevirtual 34, 3) := by decide +kernel
theorem dL_books_454 : decode cL_books 454 = .ok (.iconst 1, 1) := by decide +kernel
theorem dL_books_455 : decode cL_books 455 = .ok (.if_icmp .ne 7, 3) := by decide +kernel
theorem dL_books_458 : decode cL_books 458 = .ok (.iconst 1, 1) := by decide +kernel
theorem dL_books_459 : decode cL_books 459 = .ok (.goto 19, 3) := by decide +kernel
theorem dL_books_462 : decode cL_books 462 = .ok (.iconst 0, 1) := by decide +kernel
theorem dL_books_463 : decode cL_books 463 = .ok (.goto 15, 3) := by decide +kernel
theorem dL_books_466 : decode cL_books 466 = .ok (.iload 7, 2) := by decide +kernel
theorem dL_books_468 : decode cL_books 468 = .ok (.ldc 23, 2) := by decide +kernel
theorem dL_books_470 : decode cL_books 470 = .ok (.if_icmp .ne 7, 3) := by decide +kernel
theorem dL_books_473 : decode cL_books 473 = .ok (.iconst 1, 1) := by decide +kernel
theorem dL_books_474 : decode cL_books 474 = .ok (.goto 4, 3) := by decide +kernel
theorem dL_books_477 : decode cL_books 477 = .ok (.iconst 0, 1) := by decide +kernel
theorem dL_books_478 : decode cL_books 478 = .ok (.ireturn, 1) := by decide +kernel
theorem dL_offices_0 : decode cL_offices 0 = .ok (.iload_n 3, 1) := by decide +kernel
theorem dL_offices_1 : decode cL_offices 1 = .ok (.bipush 9, 2) := by decide +kernel
theorem dL_offices_3 : decode cL_offices 3 = .ok (.invokestatic 116, 3) := by decide +kernel
theorem dL_offices_6 : decode cL_offices 6 = .ok (.istore 5, 2) := by decide +kernel
theorem dL_offices_8 : decode cL_offices 8 = .ok (.iload 4, 2) := by decide +kernel
theorem dL_offices_10 : decode cL_offices 10 = .ok (.aload_n 2, 1) := by decide +kernel
theorem dL_offices_11 : decode cL_offices 11 = .ok (.iconst 0, 1) := by decide +kernel
theorem dL_offices_12 : decode cL_offices 12 = .ok (.iaload, 1) := by decide +kernel
theorem dL_offices_13 : decode cL_offices 13 = .ok (.invokestatic 116, 3) := by decide +kernel
theorem dL_offices_16 : decode cL_offices 16 = .ok (.istore 6, 2) := by decide +kernel
theorem dL_offices_18 : decode cL_offices 18 = .ok (.iload 5, 2) := by decide +kernel
theorem dL_offices_20 : decode cL_offices 20 = .ok (.iconst 2, 1) := by decide +kernel
theorem dL_offices_21 : decode cL_offices 21 = .ok (.if_icmp .ge 63, 3) := by decide +kernel
theorem dL_offices_24 : decode cL_offices 24 = .ok (.aload_n 0, 1) := by decide +kernel
theorem dL_offices_25 : decode cL_offices 25 = .ok (.aload_n 1, 1) := by decide +kernel
theorem dL_offices_26 : decode cL_offices 26 = .ok (.bipush 8, 2) := by decide +kernel
theorem dL_offices_28 : decode cL_offices 28 = .ok (.iload 6, 2) := by decide +kernel
theorem dL_offices_30 : decode cL_offices 30 = .ok (.iload 4, 2) := by decide +kernel
theorem dL_offices_32 : decode cL_offices 32 = .ok (.iconst 3, 1) := by decide +kernel
theorem dL_offices_33 : decode cL_offices 33 = .ok (.ishr, 1) := by decide +kernel
theorem dL_offices_34 : decode cL_offices 34 = .ok (.bipush 40, 2) := by decide +kernel
theorem dL_offices_36 : decode cL_offices 36 = .ok (.invokestatic 116, 3) := by decide +kernel
theorem dL_offices_39 : decode cL_offices 39 = .ok (.iconst 0, 1) := by decide +kernel
theorem dL_offices_40 : decode cL_offices 40 = .ok (.iconst 0, 1) := by decide +kernel
theorem dL_offices_41 : decode cL_offices 41 = .ok (.iconst 0, 1) := by decide +kernel
theorem dL_offices_42 : decode cL_offices 42 = .ok (.invokestatic 120, 3) := by decide +kernel
theorem dL_offices_45 : decode cL_offices 45 = .ok (.istore 7, 2) := by decide +kernel
theorem dL_offices_47 : decode cL_offices 47 = .ok (.iload 7, 2) := by decide +kernel
theorem dL_offices_49 : decode cL_offices 49 = .ok (.ifCond .lt 33, 3) := by decide +kernel
theorem dL_offices_52 : decode cL_offices 52 = .ok (.iload 7, 2) := by decide +kernel
theorem dL_offices_54 : decode cL_offices 54 = .ok (.bipush 40, 2) := by decide +kernel
theorem dL_offices_56 : decode cL_offices 56 = .ok (.if_icmp .ge 26, 3) := by decide +kernel
theorem dL_offices_59 : decode cL_offices 59 = .ok (.aload_n 0, 1) := by decide +kernel
theorem dL_offices_60 : decode cL_offices 60 = .ok (.aload_n 1, 1) := by decide +kernel
theorem dL_offices_61 : decode cL_offices 61 = .ok (.bipush 8, 2) := by decide +kernel
theorem dL_offices_63 : decode cL_offices 63 = .ok (.iload 6, 2) := by decide +kernel
theorem dL_offices_65 : decode cL_offices 65 = .ok (.bipush 40, 2) := by decide +kernel
theorem dL_offices_67 : decode cL_offices 67 = .ok (.iconst 0, 1) := by decide +kernel
theorem dL_offices_68 : decode cL_offices 68 = .ok (.iconst 0, 1) := by decide +kernel
theorem dL_offices_69 : decode cL_offices 69 = .ok (.iconst 0, 1) := by decide +kernel
theorem dL_offices_70 : decode cL_offices 70 = .ok (.invokestatic 120, 3) := by decide +kernel
theorem dL_offices_73 : decode cL_offices 73 = .ok (.ldc 20, 2) := by decide +kernel
theorem dL_offices_75 : decode cL_offices 75 = .ok (.if_icmp .ne 7, 3) := by decide +kernel
theorem dL_offices_78 : decode cL_offices 78 = .ok (.iconst 1, 1) := by decide +kernel
theorem dL_offices_79 : decode cL_offices 79 = .ok (.goto 4, 3) := by decide +kernel
theorem dL_offices_82 : decode cL_offices 82 = .ok (.iconst 0, 1) := by decide +kernel
theorem dL_offices_83 : decode cL_offices 83 = .ok (.ireturn, 1) := by decide +kernel
theorem dL_offices_84 : decode cL_offices 84 = .ok (.iload 5, 2) := by decide +kernel
theorem dL_offices_86 : decode cL_offices 86 = .ok (.iconst 4, 1) := by decide +kernel
theorem dL_offices_87 : decode cL_offices 87 = .ok (.if_icmp .ge 42, 3) := by decide +kernel
theorem dL_offices_90 : decode cL_offices 90 = .ok (.aload_n 0, 1) := by decide +kernel
theorem dL_offices_91 : decode cL_offices 91 = .ok (.aload_n 1, 1) := by decide +kernel
theorem dL_offices_92 : decode cL_offices 92 = .ok (.bipush 7, 2) := by decide +kernel
theorem dL_offices_94 : decode cL_offices 94 = .ok (.iload 6, 2) := by decide +kernel
theorem dL_offices_96 : decode cL_offices 96 = .ok (.iload 4, 2) := by decide +kernel
theorem dL_offices_98 : decode cL_offices 98 = .ok (.iconst 3, 1) := by decide +kernel
theorem dL_offices_99 : decode cL_offices 99 = .ok (.ishr, 1) := by decide +kernel
theorem dL_offices_100 : decode cL_offices 100 = .ok (.iconst 2, 1) := by decide +kernel
theorem dL_offices_101 : decode cL_offices 101 = .ok (.invokestatic 116, 3) := by decide +kernel
theorem dL_offices_104 : decode cL_offices 104 = .ok (.iconst 0, 1) := by decide +kernel
theorem dL_offices_105 : decode cL_offices 105 = .ok (.iconst 0, 1) := by decide +kernel
theorem dL_offices_106 : decode cL_offices 106 = .ok (.iconst 0, 1) := by decide +kernel
theorem dL_offices_107 : decode cL_offices 107 = .ok (.invokestatic 120, 3) := by decide +kernel
theorem dL_offices_110 : decode cL_offices 110 = .ok (.istore 7, 2) := by decide +kernel
theorem dL_offices_112 : decode cL_offices 112 = .ok (.iload 7, 2) := by decide +kernel
theorem dL_offices_114 : decode cL_offices 114 = .ok (.ifCond .eq 9, 3) := by decide +kernel
theorem dL_offices_117 : decode cL_offices 117 = .ok (.iload 7, 2) := by decide +kernel
theorem dL_offices_119 : decode cL_offices 119 = .ok (.iconst 1, 1) := by decide +kernel
theorem dL_offices_120 : decode cL_offices 120 = .ok (.if_icmp .ne 7, 3) := by decide +kernel
theorem dL_offices_123 : decode cL_offices 123 = .ok (.iconst 1, 1) := by decide +kernel
theorem dL_offices_124 : decode cL_offices 124 = .ok (.goto 4, 3) := by decide +kernel
theorem dL_offices_127 : decode cL_offices 127 = .ok (.iconst 0, 1) := by decide +kernel
theorem dL_offices_128 : decode cL_offices 128 = .ok (.ireturn, 1) := by decide +kernel
theorem dL_offices_129 : decode cL_offices 129 = .ok (.iload 5, 2) := by decide +kernel
theorem dL_offices_131 : decode cL_offices 131 = .ok (.iconst 5, 1) := by decide +kernel
theorem dL_offices_132 : decode cL_offices 132 = .ok (.if_icmp .ge 105, 3) := by decide +kernel
theorem dL_offices_135 : decode cL_offices 135 = .ok (.aload_n 0, 1) := by decide +kernel
theorem dL_offices_136 : decode cL_offices 136 = .ok (.aload_n 1, 1) := by decide +kernel
theorem dL_offices_137 : decode cL_offices 137 = .ok (.bipush 9, 2) := by decide +kernel
theorem dL_offices_139 : decode cL_offices 139 = .ok (.iload 4, 2) := by decide +kernel
theorem dL_offices_141 : decode cL_offices 141 = .ok (.iconst 4, 1) := by decide +kernel
theorem dL_offices_142 : decode cL_offices 142 = .ok (.invokestatic 116, 3) := by decide +kernel
theorem dL_offices_145 : decode cL_offices 145 = .ok (.iconst 5, 1) := by decide +kernel
theorem dL_offices_146 : decode cL_offices 146 = .ok (.iload 4, 2) := by decide +kernel
theorem dL_offices_148 : decode cL_offices 148 = .ok (.iconst 3, 1) := by decide +kernel
theorem dL_offices_149 : decode cL_offices 149 = .ok (.ishr, 1) := by decide +kernel
theorem dL_offices_150 : decode cL_offices 150 = .ok (.bipush 16, 2) := by decide +kernel
theorem dL_offices_152 : decode cL_offices 152 = .ok (.invokestatic 116, 3) := by decide +kernel
theorem dL_offices_155 : decode cL_offices 155 = .ok (.iadd, 1) := by decide +kernel
theorem dL_offices_156 : decode cL_offices 156 = .ok (.iconst 5, 1) := by decide +kernel
theorem dL_offices_157 : decode cL_offices 157 = .ok (.iconst 5, 1) := by decide +kernel
theorem dL_offices_158 : decode cL_offices 158 = .ok (.iload 4, 2) := by decide +kernel
theorem dL_offices_160 : decode cL_offices 160 = .ok (.bipush 8, 2) := by decide +kernel
theorem dL_offices_162 : decode cL_offices 162 = .ok (.ishr, 1) := by decide +kernel
theorem dL_offices_163 : decode cL_offices 163 = .ok (.iconst 3, 1) := by decide +kernel
theorem dL_offices_164 : decode cL_offices 164 = .ok (.invokestatic 116, 3) := by decide +kernel
theorem dL_offices_167 : decode cL_offices 167 = .ok (.imul, 1) := by decide +kernel
theorem dL_offices_168 : decode cL_offices 168 = .ok (.iadd, 1) := by decide +kernel
theorem dL_offices_169 : decode cL_offices 169 = .ok (.iload 4, 2) := by decide +kernel
theorem dL_offices_171 : decode cL_offices 171 = .ok (.bipush 6, 2) := by decide +kernel
theorem dL_offices_173 : decode cL_offices 173 = .ok (.ishr, 1) := by decide +kernel
theorem dL_offices_174 : decode cL_offices 174 = .ok (.iconst 3, 1) := by decide +kernel
theorem dL_offices_175 : decode cL_offices 175 = .ok (.invokestatic 116, 3) := by decide +kernel
theorem dL_offices_178 : decode cL_offices 178 = .ok (.iconst 0, 1) := by decide +kernel
theorem dL_offices_179 : decode cL_offices 179 = .ok (.invokestatic 120, 3) := by decide +kernel
theorem dL_offices_182 : decode cL_offices 182 = .ok (.istore 7, 2) := by decide +kernel
theorem dL_offices_184 : decode cL_offices 184 = .ok (.aload_n 2, 1) := by decide +kernel
theorem dL_offices_185 : decode cL_offices 185 = .ok (.iconst 4, 1) := by decide +kernel
theorem dL_offices_186 : decode cL_offices 186 = .ok (.dup2, 1) := by decide +kernel
theorem dL_offices_187 : decode cL_offices 187 = .ok (.iaload, 1) := by decide +kernel
theorem dL_offices_188 : decode cL_offices 188 = .ok (.iload 7, 2) := by decide +kernel
theorem dL_offices_190 : decode cL_offices 190 = .ok (.ifCond .lt 7, 3) := by decide +kernel
theorem dL_offices_193 : decode cL_offices 193 = .ok (.iconst 1, 1) := by decide +kernel
theorem dL_offices_194 : decode cL_offices 194 = .ok (.goto 4, 3) := by decide +kernel
theorem dL_offices_197 : decode cL_offices 197 = .ok (.iconst 0, 1) := by decide +kernel
theorem dL_offices_198 : decode cL_offices 198 = .ok (.iadd, 1) := by decide +kernel
theorem dL_offices_199 : decode cL_offices 199 = .ok (.iastore, 1) := by decide +kernel
theorem dL_offices_200 : decode cL_offices 200 = .ok (.iload 7, 2) := by decide +kernel
theorem dL_offices_202 : decode cL_offices 202 = .ok (.ldc 23, 2) := by decide +kernel
theorem dL_offices_204 : decode cL_offices 204 = .ok (.if_icmp .ne 19, 3) := by decide +kernel
theorem dL_offices_207 : decode cL_offices 207 = .ok (.aload_n 2, 1) := by decide +kernel
theorem dL_offices_208 : decode cL_offices 208 = .ok (.iconst 4, 1) := by decide +kernel
theorem dL_offices_209 : decode cL_offices 209 = .ok (.iaload, 1) := by decide +kernel
theorem dL_offices_210 : decode cL_offices 210 = .ok (.bipush 12, 2) := by decide +kernel
theorem dL_offices_212 : decode cL_offices 212 = .ok (.if_icmp .ne 7, 3) := by decide +kernel
theorem dL_offices_215 : decode cL_offices 215 = .ok (.iconst 1, 1) := by decide +kernel
theorem dL_offices_216 : decode cL_offices 216 = .ok (.goto 20, 3) := by decide +kernel
theorem dL_offices_219 : decode cL_offices 219 = .ok (.iconst 0, 1) := by decide +kernel
theorem dL_offices_220 : decode cL_offices 220 = .ok (.goto 16, 3) := by decide +kernel
theorem dL_offices_223 : decode cL_offices 223 = .ok (.iload 7, 2) := by decide +kernel
theorem dL_offices_225 : decode cL_offices 225 = .ok (.aload_n 2, 1) := by decide +kernel
theorem dL_offices_226 : decode cL_offices 226 = .ok (.iconst 4, 1) := by decide +kernel
theorem dL_offices_227 : decode cL_offices 227 = .ok (.iaload, 1) := by decide +kernel
theorem dL_offices_228 : decode cL_offices 228 = .ok (.if_icmp .ne 7, 3) := by decide +kernel
theorem dL_offices_231 : decode cL_offices 231 = .ok (.iconst 1, 1) := by decide +kernel
theorem dL_offices_232 : decode cL_offices 232 = .ok (.goto 4, 3) := by decide +kernel
theorem dL_offices_235 : decode cL_offices 235 = .ok (.iconst 0, 1) := by decide +kernel
theorem dL_offices_236 : decode cL_offices 236 = .ok (.ireturn, 1) := by decide +kernel
theorem dL_offices_237 : decode cL_offices 237 = .ok (.iload 5, 2) := by decide +kernel
theorem dL_offices_239 : decode cL_offices 239 = .ok (.bipush 6, 2) := by decide +kernel
theorem dL_offices_241 : decode cL_offices 241 = .ok (.if_icmp .ge 90, 3) := by decide +kernel
theorem dL_offices_244 : decode cL_offices 244 = .ok (.aload_n 2, 1) := by decide +kernel
theorem dL_offices_245 : decode cL_offices 245 = .ok (.iconst 4, 1) := by decide +kernel
theorem dL_offices_246 : decode cL_offices 246 = .ok (.iaload, 1) := by decide +kernel
theorem dL_offices_247 : decode cL_offices 247 = .ok (.ifCond .ne 18, 3) := by decide +kernel
theorem dL_offices_250 : decode cL_offices 250 = .ok (.aload_n 0, 1) := by decide +kernel
theorem dL_offices_251 : decode cL_offices 251 = .ok (.bipush 10, 2) := by decide +kernel
theorem dL_offices_253 : decode cL_offices 253 = .ok (.iload 6, 2) := by decide +kernel
theorem dL_offices_255 : decode cL_offices 255 = .ok (.iconst 1, 1) := by decide +kernel
theorem dL_offices_256 : decode cL_offices 256 = .ok (.iconst 0, 1) := by decide +kernel
theorem dL_offices_257 : decode cL_offices 257 = .ok (.iconst 0, 1) := by decide +kernel
theorem dL_offices_258 : decode cL_offices 258 = .ok (.iconst 0, 1) := by decide +kernel
theorem dL_offices_259 : decode cL_offices 259 = .ok (.invokestatic 112, 3) := by decide +kernel
theorem dL_offices_262 : decode cL_offices 262 = .ok (.goto 27, 3) := by decide +kernel
theorem dL_offices_265 : decode cL_offices 265 = .ok (.aload_n 0, 1) := by decide +kernel
theorem dL_offices_266 : decode cL_offices 266 = .ok (.aload_n 1, 1) := by decide +kernel
theorem dL_offices_267 : decode cL_offices 267 = .ok (.bipush 10, 2) := by decide +kernel
theorem dL_offices_269 : decode cL_offices 269 = .ok (.iload 6, 2) := by decide +kernel
theorem dL_offices_271 : decode cL_offices 271 = .ok (.iconst 1, 1) := by decide +kernel
theorem dL_offices_272 : decode cL_offices 272 = .ok (.iload 4, 2) := by decide +kernel
theorem dL_offices_274 : decode cL_offices 274 = .ok (.iconst 3, 1) := by decide +kernel
theorem dL_offices_275 : decode cL_offices 275 = .ok (.ishr, 1) := by decide +kernel
theorem dL_offices_276 : decode cL_offices 276 = .ok (.aload_n 2, 1) := by decide +kernel
theorem dL_offices_277 : decode cL_offices 277 = .ok (.iconst 4, 1) := by decide +kernel
theorem dL_offices_278 : decode cL_offices 278 = .ok (.iaload, 1) := by decide +kernel
theorem dL_offices_279 : decode cL_offices 279 = .ok (.invokestatic 116, 3) := by decide +kernel
theorem dL_offices_282 : decode cL_offices 282 = .ok (.iadd, 1) := by decide +kernel
theorem dL_offices_283 : decode cL_offices 283 = .ok (.iconst 0, 1) := by decide +kernel
theorem dL_offices_284 : decode cL_offices 284 = .ok (.iconst 0, 1) := by decide +kernel
theorem dL_offices_285 : decode cL_offices 285 = .ok (.iconst 0, 1) := by decide +kernel
theorem dL_offices_286 : decode cL_offices 286 = .ok (.invokestatic 120, 3) := by decide +kernel
theorem dL_offices_289 : decode cL_offices 289 = .ok (.istore 7, 2) := by decide +kernel
theorem dL_offices_291 : decode cL_offices 291 = .ok (.aload_n 2, 1) := by decide +kernel
theorem dL_offices_292 : decode cL_offices 292 = .ok (.iconst 4, 1) := by decide +kernel
theorem dL_offices_293 : decode cL_offices 293 = .ok (.iaload, 1) := by decide +kernel
theorem dL_offices_294 : decode cL_offices 294 = .ok (.ifCond .ne 18, 3) := by decide +kernel
theorem dL_offices_297 : decode cL_offices 297 = .ok (.iload 7, 2) := by decide +kernel
theorem dL_offices_299 : decode cL_offices 299 = .ok (.ldc 17, 2) := by decide +kernel
theorem dL_offices_301 : decode cL_offices 301 = .ok (.if_icmp .ne 7, 3) := by decide +kernel
theorem dL_offices_304 : decode cL_offices 304 = .ok (.iconst 1, 1) := by decide +kernel
theorem dL_offices_305 : decode cL_offices 305 = .ok (.goto 25, 3) := by decide +kernel
theorem dL_offices_308 : decode cL_offices 308 = .ok (.iconst 0, 1) := by decide +kernel
theorem dL_offices_309 : decode cL_offices 309 = .ok (.goto 21, 3) := by decide +kernel
theorem dL_offices_312 : decode cL_offices 312 = .ok (.iload 7, 2) := by decide +kernel
theorem dL_offices_314 : decode cL_offices 314 = .ok (.ifCond .lt 15, 3) := by decide +kernel
theorem dL_offices_317 : decode cL_offices 317 = .ok (.iload 7, 2) := by decide +kernel
theorem dL_offices_319 : decode cL_offices 319 = .ok (.aload_n 2, 1) := by decide +kernel
theorem dL_offices_320 : decode cL_offices 320 = .ok (.iconst 4, 1) := by decide +kernel
theorem dL_offices_321 : decode cL_offices 321 = .ok (.iaload, 1) := by decide +kernel
theorem dL_offices_322 : decode cL_offices 322 = .ok (.if_icmp .gt 7, 3) := by decide +kernel
theorem dL_offices_325 : decode cL_offices 325 = .ok (.iconst 1, 1) := by decide +kernel
theorem dL_offices_326 : decode cL_offices 326 = .ok (.goto 4, 3) := by decide +kernel
theorem dL_offices_329 : decode cL_offices 329 = .ok (.iconst 0, 1) := by decide +kernel
theorem dL_offices_330 : decode cL_offices 330 = .ok (.ireturn, 1) := by decide +kernel
theorem dL_offices_331 : decode cL_offices 331 = .ok (.iload 4, 2) := by decide +kernel
theorem dL_offices_333 : decode cL_offices 333 = .ok (.aload_n 2, 1) := by decide +kernel
theorem dL_offices_334 : decode cL_offices 334 = .ok (.iconst 1, 1) := by decide +kernel
theorem dL_offices_335 : decode cL_offices 335 = .ok (.iaload, 1) := by decide +kernel
theorem dL_offices_336 : decode cL_offices 336 = .ok (.invokestatic 116, 3) := by decide +kernel
theorem dL_offices_339 : decode cL_offices 339 = .ok (.istore 7, 2) := by decide +kernel
theorem dL_offices_341 : decode cL_offices 341 = .ok (.iconst 0, 1) := by decide +kernel
theorem dL_offices_342 : decode cL_offices 342 = .ok (.istore 8, 2) := by decide +kernel
theorem dL_offices_344 : decode cL_offices 344 = .ok (.iconst 0, 1) := by decide +kernel
theorem dL_offices_345 : decode cL_offices 345 = .ok (.istore 9, 2) := by decide +kernel
theorem dL_offices_347 : decode cL_offices 347 = .ok (.iload 9, 2) := by decide +kernel
theorem dL_offices_349 : decode cL_offices 349 = .ok (.aload_n 2, 1) := by decide +kernel
theorem dL_offices_350 : decode cL_offices 350 = .ok (.iconst 3, 1) := by decide +kernel
theorem dL_offices_351 : decode cL_offices 351 = .ok (.iaload, 1) := by decide +kernel
theorem dL_offices_352 : decode cL_offices 352 = .ok (.if_icmp .ge 31, 3) := by decide +kernel
theorem dL_offices_355 : decode cL_offices 355 = .ok (.iload 8, 2) := by decide +kernel
theorem dL_offices_357 : decode cL_offices 357 = .ok (.aload_n 0, 1) := by decide +kernel
theorem dL_offices_358 : decode cL_offices 358 = .ok (.iload 9, 2) := by decide +kernel
theorem dL_offices_360 : decode cL_offices 360 = .ok (.iconst 4, 1) := by decide +kernel
theorem dL_offices_361 : decode cL_offices 361 = .ok (.invokevirtual 85, 3) := by decide +kernel
theorem dL_offices_364 : decode cL_offices 364 = .ok (.iload 7, 2) := by decide +kernel
theorem dL_offices_366 : decode cL_offices 366 = .ok (.if_icmp .ne 7, 3) := by decide +kernel
theorem dL_offices_369 : decode cL_offices 369 = .ok (.iconst 1, 1) := by decide +kernel
theorem dL_offices_370 : decode cL_offices 370 = .ok (.goto 4, 3) := by decide +kernel
theorem dL_offices_373 : decode cL_offices 373 = .ok (.iconst 0, 1) := by decide +kernel
theorem dL_offices_374 : decode cL_offices 374 = .ok (.iadd, 1) := by decide +kernel
theorem dL_offices_375 : decode cL_offices 375 = .ok (.istore 8, 2) := by decide +kernel
theorem dL_offices_377 : decode cL_offices 377 = .ok (.iinc 9 1, 3) := by decide +kernel
theorem dL_offices_380 : decode cL_offices 380 = .ok (.goto (-33), 3) := by decide +kernel
theorem dL_offices_383 : decode cL_offices 383 = .ok (.aload_n 0, 1) := by decide +kernel
theorem dL_offices_384 : decode cL_offices 384 = .ok (.aload_n 1, 1) := by decide +kernel
theorem dL_offices_385 : decode cL_offices 385 = .ok (.bipush 6, 2) := by decide +kernel
theorem dL_offices_387 : decode cL_offices 387 = .ok (.iload 7, 2) := by decide +kernel
theorem dL_offices_389 : decode cL_offices 389 = .ok (.iload 4, 2) := by decide +kernel
theorem dL_offices_391 : decode cL_offices 391 = .ok (.iconst 5, 1) := by decide +kernel
theorem dL_offices_392 : decode cL_offices 392 = .ok (.ishr, 1) := by decide +kernel
theorem dL_offices_393 : decode cL_offices 393 = .ok (.iconst 4, 1) := by decide +kernel
theorem dL_offices_394 : decode cL_offices 394 = .ok (.invokestatic 116, 3) := by decide +kernel
theorem dL_offices_397 : decode cL_offices 397 = .ok (.ifCond .ne 7, 3) := by decide +kernel
theorem dL_offices_400 : decode cL_offices 400 = .ok (.iconst 1, 1) := by decide +kernel
theorem dL_offices_401 : decode cL_offices 401 = .ok (.goto 4, 3) := by decide +kernel
theorem dL_offices_404 : decode cL_offices 404 = .ok (.iconst 0, 1) := by decide +kernel
theorem dL_offices_405 : decode cL_offices 405 = .ok (.iconst 0, 1) := by decide +kernel
theorem dL_offices_406 : decode cL_offices 406 = .ok (.iconst 0, 1) := by decide +kernel
theorem dL_offices_407 : decode cL_offices 407 = .ok (.iconst 0, 1) := by decide +kernel
theorem dL_offices_408 : decode cL_offices 408 = .ok (.invokestatic 120, 3) := by decide +kernel
theorem dL_offices_411 : decode cL_offices 411 = .ok (.iload 8, 2) := by decide +kernel
theorem dL_offices_413 : decode cL_offices 413 = .ok (.if_icmp .ne 7, 3) := by decide +kernel
theorem dL_offices_416 : decode cL_offices 416 = .ok (.iconst 1, 1) := by decide +kernel
theorem dL_offices_417 : decode cL_offices 417 = .ok (.goto 4, 3) := by decide +kernel
theorem dL_offices_420 : decode cL_offices 420 = .ok (.iconst 0, 1) := by decide +kernel
theorem dL_offices_421 : decode cL_offices 421 = .ok (.ireturn, 1) := by decide +kernel
theorem dL_sends_0 : decode cL_sends 0 = .ok (.iload_n 3, 1) := by decide +kernel
theorem dL_sends_1 : decode cL_sends 1 = .ok (.iconst 3, 1) := by decide +kernel
theorem dL_sends_2 : decode cL_sends 2 = .ok (.invokestatic 116, 3) := by decide +kernel
theorem dL_sends_5 : decode cL_sends 5 = .ok (.ifCond .gt 9, 3) := by decide +kernel
theorem dL_sends_8 : decode cL_sends 8 = .ok (.aload_n 2, 1) := by decide +kernel
theorem dL_sends_9 : decode cL_sends 9 = .ok (.iconst 5, 1) := by decide +kernel
theorem dL_sends_10 : decode cL_sends 10 = .ok (.iaload, 1) := by decide +kernel
theorem dL_sends_11 : decode cL_sends 11 = .ok (.ifCond .ne 75, 3) := by decide +kernel
theorem dL_sends_14 : decode cL_sends 14 = .ok (.aload_n 0, 1) := by decide +kernel
theorem dL_sends_15 : decode cL_sends 15 = .ok (.aload_n 1, 1) := by decide +kernel
theorem dL_sends_16 : decode cL_sends 16 = .ok (.bipush 11, 2) := by decide +kernel
theorem dL_sends_18 : decode cL_sends 18 = .ok (.iload 4, 2) := by decide +kernel
theorem dL_sends_20 : decode cL_sends 20 = .ok (.iconst 5, 1) := by decide +kernel
theorem dL_sends_21 : decode cL_sends 21 = .ok (.invokestatic 116, 3) := by decide +kernel
theorem dL_sends_24 : decode cL_sends 24 = .ok (.iconst 0, 1) := by decide +kernel
theorem dL_sends_25 : decode cL_sends 25 = .ok (.iconst 0, 1) := by decide +kernel
theorem dL_sends_26 : decode cL_sends 26 = .ok (.iconst 0, 1) := by decide +kernel
theorem dL_sends_27 : decode cL_sends 27 = .ok (.iconst 0, 1) := by decide +kernel
theorem dL_sends_28 : decode cL_sends 28 = .ok (.invokestatic 120, 3) := by decide +kernel
theorem dL_sends_31 : decode cL_sends 31 = .ok (.istore 5, 2) := by decide +kernel
theorem dL_sends_33 : decode cL_sends 33 = .ok (.aload_n 2, 1) := by decide +kernel
theorem dL_sends_34 : decode cL_sends 34 = .ok (.iconst 5, 1) := by decide +kernel
theorem dL_sends_35 : decode cL_sends 35 = .ok (.dup2, 1) := by decide +kernel
theorem dL_sends_36 : decode cL_sends 36 = .ok (.iaload, 1) := by decide +kernel
theorem dL_sends_37 : decode cL_sends 37 = .ok (.iload 5, 2) := by decide +kernel
theorem dL_sends_39 : decode cL_sends 39 = .ok (.ifCond .lt 7, 3) := by decide +kernel
theorem dL_sends_42 : decode cL_sends 42 = .ok (.iconst 1, 1) := by decide +kernel
theorem dL_sends_43 : decode cL_sends 43 = .ok (.goto 4, 3) := by decide +kernel
theorem dL_sends_46 : decode cL_sends 46 = .ok (.iconst 0, 1) := by decide +kernel
theorem dL_sends_47 : decode cL_sends 47 = .ok (.iadd, 1) := by decide +kernel
theorem dL_sends_48 : decode cL_sends 48 = .ok (.iastore, 1) := by decide +kernel
theorem dL_sends_49 : decode cL_sends 49 = .ok (.iload 5, 2) := by decide +kernel
theorem dL_sends_51 : decode cL_sends 51 = .ok (.ldc 23, 2) := by decide +kernel
theorem dL_sends_53 : decode cL_sends 53 = .ok (.if_icmp .ne 19, 3) := by decide +kernel
theorem dL_sends_56 : decode cL_sends 56 = .ok (.aload_n 2, 1) := by decide +kernel
theorem dL_sends_57 : decode cL_sends 57 = .ok (.iconst 5, 1) := by decide +kernel
theorem dL_sends_58 : decode cL_sends 58 = .ok (.iaload, 1) := by decide +kernel
theorem dL_sends_59 : decode cL_sends 59 = .ok (.bipush 24, 2) := by decide +kernel
theorem dL_sends_61 : decode cL_sends 61 = .ok (.if_icmp .ne 7, 3) := by decide +kernel
theorem dL_sends_64 : decode cL_sends 64 = .ok (.iconst 1, 1) := by decide +kernel
theorem dL_sends_65 : decode cL_sends 65 = .ok (.goto 20, 3) := by decide +kernel
theorem dL_sends_68 : decode cL_sends 68 = .ok (.iconst 0, 1) := by decide +kernel
theorem dL_sends_69 : decode cL_sends 69 = .ok (.goto 16, 3) := by decide +kernel
theorem dL_sends_72 : decode cL_sends 72 = .ok (.iload 5, 2) := by decide +kernel
theorem dL_sends_74 : decode cL_sends 74 = .ok (.aload_n 2, 1) := by decide +kernel
theorem dL_sends_75 : decode cL_sends 75 = .ok (.iconst 5, 1) := by decide +kernel
theorem dL_sends_76 : decode cL_sends 76 = .ok (.iaload, 1) := by decide +kernel
theorem dL_sends_77 : decode cL_sends 77 = .ok (.if_icmp .ne 7, 3) := by decide +kernel
theorem dL_sends_80 : decode cL_sends 80 = .ok (.iconst 1, 1) := by decide +kernel
theorem dL_sends_81 : decode cL_sends 81 = .ok (.goto 4, 3) := by decide +kernel
theorem dL_sends_84 : decode cL_sends 84 = .ok (.iconst 0, 1) := by decide +kernel
theorem dL_sends_85 : decode cL_sends 85 = .ok (.ireturn, 1) := by decide +kernel
theorem dL_sends_86 : decode cL_sends 86 = .ok (.iload 4, 2) := by decide +kernel
theorem dL_sends_88 : decode cL_sends 88 = .ok (.aload_n 2, 1) := by decide +kernel
theorem dL_sends_89 : decode cL_sends 89 = .ok (.iconst 0, 1) := by decide +kernel
theorem dL_sends_90 : decode cL_sends 90 = .ok (.iaload, 1) := by decide +kernel
theorem dL_sends_91 : decode cL_sends 91 = .ok (.invokestatic 116, 3) := by decide +kernel
theorem dL_sends_94 : decode cL_sends 94 = .ok (.istore 5, 2) := by decide +kernel
theorem dL_sends_96 : decode cL_sends 96 = .ok (.iload 5, 2) := by decide +kernel
theorem dL_sends_98 : decode cL_sends 98 = .ok (.iconst 1, 1) := by decide +kernel
theorem dL_sends_99 : decode cL_sends 99 = .ok (.iadd, 1) := by decide +kernel
theorem dL_sends_100 : decode cL_sends 100 = .ok (.iload 4, 2) := by decide +kernel
theorem dL_sends_102 : decode cL_sends 102 = .ok (.iconst 3, 1) := by decide +kernel
theorem dL_sends_103 : decode cL_sends 103 = .ok (.ishr, 1) := by decide +kernel
theorem dL_sends_104 : decode cL_sends 104 = .ok (.aload_n 2, 1) := by decide +kernel
theorem dL_sends_105 : decode cL_sends 105 = .ok (.iconst 0, 1) := by decide +kernel
theorem dL_sends_106 : decode cL_sends 106 = .ok (.iaload, 1) := by decide +kernel
theorem dL_sends_107 : decode cL_sends 107 = .ok (.iconst 1, 1) := by decide +kernel
theorem dL_sends_108 : decode cL_sends 108 = .ok (.isub, 1) := by decide +kernel
theorem dL_sends_109 : decode cL_sends 109 = .ok (.invokestatic 116, 3) := by decide +kernel
theorem dL_sends_112 : decode cL_sends 112 = .ok (.iadd, 1) := by decide +kernel
theorem dL_sends_113 : decode cL_sends 113 = .ok (.aload_n 2, 1) := by decide +kernel
theorem dL_sends_114 : decode cL_sends 114 = .ok (.iconst 0, 1) := by decide +kernel
theorem dL_sends_115 : decode cL_sends 115 = .ok (.iaload, 1) := by decide +kernel
theorem dL_sends_116 : decode cL_sends 116 = .ok (.irem, 1) := by decide +kernel
theorem dL_sends_117 : decode cL_sends 117 = .ok (.istore 6, 2) := by decide +kernel
theorem dL_sends_119 : decode cL_sends 119 = .ok (.iload 4, 2) := by decide +kernel
theorem dL_sends_121 : decode cL_sends 121 = .ok (.bipush 6, 2) := by decide +kernel
theorem dL_sends_123 : decode cL_sends 123 = .ok (.ishr, 1) := by decide +kernel
theorem dL_sends_124 : decode cL_sends 124 = .ok (.iconst 3, 1) := by decide +kernel
theorem dL_sends_125 : decode cL_sends 125 = .ok (.invokestatic 116, 3) := by decide +kernel
theorem dL_sends_128 : decode cL_sends 128 = .ok (.istore 7, 2) := by decide +kernel
theorem dL_sends_130 : decode cL_sends 130 = .ok (.iload 4, 2) := by decide +kernel
theorem dL_sends_132 : decode cL_sends 132 = .ok (.bipush 8, 2) := by decide +kernel
theorem dL_sends_134 : decode cL_sends 134 = .ok (.ishr, 1) := by decide +kernel
theorem dL_sends_135 : decode cL_sends 135 = .ok (.iconst 3, 1) := by decide +kernel
theorem dL_sends_136 : decode cL_sends 136 = .ok (.invokestatic 116, 3) := by decide +kernel
theorem dL_sends_139 : decode cL_sends 139 = .ok (.ifCond .le 7, 3) := by decide +kernel
theorem dL_sends_142 : decode cL_sends 142 = .ok (.iconst 1, 1) := by decide +kernel
theorem dL_sends_143 : decode cL_sends 143 = .ok (.goto 4, 3) := by decide +kernel
theorem dL_sends_146 : decode cL_sends 146 = .ok (.iconst 0, 1) := by decide +kernel
theorem dL_sends_147 : decode cL_sends 147 = .ok (.istore 8, 2) := by decide +kernel
theorem dL_sends_149 : decode cL_sends 149 = .ok (.aload_n 0, 1) := by decide +kernel
theorem dL_sends_150 : decode cL_sends 150 = .ok (.iload 5, 2) := by decide +kernel
theorem dL_sends_152 : decode cL_sends 152 = .ok (.iconst 0, 1) := by decide +kernel
theorem dL_sends_153 : decode cL_sends 153 = .ok (.invokevirtual 69, 3) := by decide +kernel
theorem dL_sends_156 : decode cL_sends 156 = .ok (.istore 9, 2) := by decide +kernel
theorem dL_sends_158 : decode cL_sends 158 = .ok (.aload_n 0, 1) := by decide +kernel
theorem dL_sends_159 : decode cL_sends 159 = .ok (.iload 5, 2) := by decide +kernel
theorem dL_sends_161 : decode cL_sends 161 = .ok (.iload 8, 2) := by decide +kernel
theorem dL_sends_163 : decode cL_sends 163 = .ok (.iconst 1, 1) := by decide +kernel
theorem dL_sends_164 : decode cL_sends 164 = .ok (.if_icmp .ne 7, 3) := by decide +kernel
theorem dL_sends_167 : decode cL_sends 167 = .ok (.iconst 1, 1) := by decide +kernel
theorem dL_sends_168 : decode cL_sends 168 = .ok (.goto 4, 3) := by decide +kernel
theorem dL_sends_171 : decode cL_sends 171 = .ok (.iconst 0, 1) := by decide +kernel
theorem dL_sends_172 : decode cL_sends 172 = .ok (.invokevirtual 69, 3) := by decide +kernel
theorem dL_sends_175 : decode cL_sends 175 = .ok (.istore 10, 2) := by decide +kernel
theorem dL_sends_177 : decode cL_sends 177 = .ok (.aload_n 0, 1) := by decide +kernel
theorem dL_sends_178 : decode cL_sends 178 = .ok (.iload 5, 2) := by decide +kernel
theorem dL_sends_180 : decode cL_sends 180 = .ok (.invokevirtual 98, 3) := by decide +kernel
theorem dL_sends_183 : decode cL_sends 183 = .ok (.istore 11, 2) := by decide +kernel
theorem dL_sends_185 : decode cL_sends 185 = .ok (.aload_n 0, 1) := by decide +kernel
theorem dL_sends_186 : decode cL_sends 186 = .ok (.aload_n 1, 1) := by decide +kernel
theorem dL_sends_187 : decode cL_sends 187 = .ok (.bipush 13, 2) := by decide +kernel
theorem dL_sends_189 : decode cL_sends 189 = .ok (.iload 5, 2) := by decide +kernel
theorem dL_sends_191 : decode cL_sends 191 = .ok (.iload 6, 2) := by decide +kernel
theorem dL_sends_193 : decode cL_sends 193 = .ok (.iload 7, 2) := by decide +kernel
theorem dL_sends_195 : decode cL_sends 195 = .ok (.iload 8, 2) := by decide +kernel
theorem dL_sends_197 : decode cL_sends 197 = .ok (.iconst 0, 1) := by decide +kernel
theorem dL_sends_198 : decode cL_sends 198 = .ok (.invokestatic 120, 3) := by decide +kernel
theorem dL_sends_201 : decode cL_sends 201 = .ok (.istore 12, 2) := by decide +kernel
theorem dL_sends_203 : decode cL_sends 203 = .ok (.iload 12, 2) := by decide +kernel
theorem dL_sends_205 : decode cL_sends 205 = .ok (.ldc 23, 2) := by decide +kernel
theorem dL_sends_207 : decode cL_sends 207 = .ok (.if_icmp .ne 32, 3) := by decide +kernel
theorem dL_sends_210 : decode cL_sends 210 = .ok (.aload_n 0, 1) := by decide +kernel
theorem dL_sends_211 : decode cL_sends 211 = .ok (.iload 5, 2) := by decide +kernel
theorem dL_sends_213 : decode cL_sends 213 = .ok (.iconst 0, 1) := by decide +kernel
theorem dL_sends_214 : decode cL_sends 214 = .ok (.invokevirtual 69, 3) := by decide +kernel
theorem dL_sends_217 : decode cL_sends 217 = .ok (.iload 9, 2) := by decide +kernel
theorem dL_sends_219 : decode cL_sends 219 = .ok (.if_icmp .ne 18, 3) := by decide +kernel
theorem dL_sends_222 : decode cL_sends 222 = .ok (.aload_n 0, 1) := by decide +kernel
theorem dL_sends_223 : decode cL_sends 223 = .ok (.iload 5, 2) := by decide +kernel
theorem dL_sends_225 : decode cL_sends 225 = .ok (.invokevirtual 98, 3) := by decide +kernel
theorem dL_sends_228 : decode cL_sends 228 = .ok (.iload 11, 2) := by decide +kernel
theorem dL_sends_230 : decode cL_sends 230 = .ok (.if_icmp .ne 7, 3) := by decide +kernel
theorem dL_sends_233 : decode cL_sends 233 = .ok (.iconst 1, 1) := by decide +kernel
theorem dL_sends_234 : decode cL_sends 234 = .ok (.goto 4, 3) := by decide +kernel
theorem dL_sends_237 : decode cL_sends 237 = .ok (.iconst 0, 1) := by decide +kernel
theorem dL_sends_238 : decode cL_sends 238 = .ok (.ireturn, 1) := by decide +kernel
theorem dL_sends_239 : decode cL_sends 239 = .ok (.aload_n 2, 1) := by decide +kernel
theorem dL_sends_240 : decode cL_sends 240 = .ok (.iconst 5, 1) := by decide +kernel
theorem dL_sends_241 : decode cL_sends 241 = .ok (.iaload, 1) := by decide +kernel
theorem dL_sends_242 : decode cL_sends 242 = .ok (.istore 13, 2) := by decide +kernel
theorem dL_sends_244 : decode cL_sends 244 = .ok (.aload_n 2, 1) := by decide +kernel
theorem dL_sends_245 : decode cL_sends 245 = .ok (.iconst 5, 1) := by decide +kernel
theorem dL_sends_246 : decode cL_sends 246 = .ok (.iconst 0, 1) := by decide +kernel
theorem dL_sends_247 : decode cL_sends 247 = .ok (.iastore, 1) := by decide +kernel
theorem dL_sends_248 : decode cL_sends 248 = .ok (.aload_n 2, 1) := by decide +kernel
theorem dL_sends_249 : decode cL_sends 249 = .ok (.iconst 3, 1) := by decide +kernel
theorem dL_sends_250 : decode cL_sends 250 = .ok (.dup2, 1) := by decide +kernel
theorem dL_sends_251 : decode cL_sends 251 = .ok (.iaload, 1) := by decide +kernel
theorem dL_sends_252 : decode cL_sends 252 = .ok (.iconst 1, 1) := by decide +kernel
theorem dL_sends_253 : decode cL_sends 253 = .ok (.iadd, 1) := by decide +kernel
theorem dL_sends_254 : decode cL_sends 254 = .ok (.iastore, 1) := by decide +kernel
theorem dL_sends_255 : decode cL_sends 255 = .ok (.aload_n 0, 1) := by decide +kernel
theorem dL_sends_256 : decode cL_sends 256 = .ok (.iload 12, 2) := by decide +kernel
theorem dL_sends_258 : decode cL_sends 258 = .ok (.iconst 3, 1) := by decide +kernel
theorem dL_sends_259 : decode cL_sends 259 = .ok (.invokevirtual 85, 3) := by decide +kernel
theorem dL_sends_262 : decode cL_sends 262 = .ok (.istore 14, 2) := by decide +kernel
theorem dL_sends_264 : decode cL_sends 264 = .ok (.iload 10, 2) := by decide +kernel
theorem dL_sends_266 : decode cL_sends 266 = .ok (.iload 9, 2) := by decide +kernel
theorem dL_sends_268 : decode cL_sends 268 = .ok (.if_icmp .gt 106, 3) := by decide +kernel
theorem dL_sends_271 : decode cL_sends 271 = .ok (.iload 12, 2) := by decide +kernel
theorem dL_sends_273 : decode cL_sends 273 = .ok (.aload_n 2, 1) := by decide +kernel
theorem dL_sends_274 : decode cL_sends 274 = .ok (.iconst 3, 1) := by decide +kernel
theorem dL_sends_275 : decode cL_sends 275 = .ok (.iaload, 1) := by decide +kernel
theorem dL_sends_276 : decode cL_sends 276 = .ok (.iconst 1, 1) := by decide +kernel
theorem dL_sends_277 : decode cL_sends 277 = .ok (.isub, 1) := by decide +kernel
theorem dL_sends_278 : decode cL_sends 278 = .ok (.if_icmp .ne 96, 3) := by decide +kernel
theorem dL_sends_281 : decode cL_sends 281 = .ok (.aload_n 0, 1) := by decide +kernel
theorem dL_sends_282 : decode cL_sends 282 = .ok (.iload 12, 2) := by decide +kernel
theorem dL_sends_284 : decode cL_sends 284 = .ok (.iconst 2, 1) := by decide +kernel
theorem dL_sends_285 : decode cL_sends 285 = .ok (.invokevirtual 85, 3) := by decide +kernel
theorem dL_sends_288 : decode cL_sends 288 = .ok (.iload 10, 2) := by decide +kernel
theorem dL_sends_290 : decode cL_sends 290 = .ok (.if_icmp .ne 84, 3) := by decide +kernel
theorem dL_sends_293 : decode cL_sends 293 = .ok (.aload_n 0, 1) := by decide +kernel
theorem dL_sends_294 : decode cL_sends 294 = .ok (.iload 12, 2) := by decide +kernel
theorem dL_sends_296 : decode cL_sends 296 = .ok (.iconst 1, 1) := by decide +kernel
theorem dL_sends_297 : decode cL_sends 297 = .ok (.invokevirtual 85, 3) := by decide +kernel
theorem dL_sends_300 : decode cL_sends 300 = .ok (.iload 13, 2) := by decide +kernel
theorem dL_sends_302 : decode cL_sends 302 = .ok (.if_icmp .gt 72, 3) := by decide +kernel
theorem dL_sends_305 : decode cL_sends 305 = .ok (.aload_n 0, 1) := by decide +kernel
theorem dL_sends_306 : decode cL_sends 306 = .ok (.iload 12, 2) := by decide +kernel
theorem dL_sends_308 : decode cL_sends 308 = .ok (.invokevirtual 95, 3) := by decide +kernel
theorem dL_sends_311 : decode cL_sends 311 = .ok (.iconst (-1), 1) := by decide +kernel
theorem dL_sends_312 : decode cL_sends 312 = .ok (.if_icmp .ne 62, 3) := by decide +kernel
theorem dL_sends_315 : decode cL_sends 315 = .ok (.iload 14, 2) := by decide +kernel
theorem dL_sends_317 : decode cL_sends 317 = .ok (.iload 10, 2) := by decide +kernel
theorem dL_sends_319 : decode cL_sends 319 = .ok (.if_icmp .lt 55, 3) := by decide +kernel
theorem dL_sends_322 : decode cL_sends 322 = .ok (.iload 14, 2) := by decide +kernel
theorem dL_sends_324 : decode cL_sends 324 = .ok (.iload 10, 2) := by decide +kernel
theorem dL_sends_326 : decode cL_sends 326 = .ok (.iload 7, 2) := by decide +kernel
theorem dL_sends_328 : decode cL_sends 328 = .ok (.iconst 2, 1) := by decide +kernel
theorem dL_sends_329 : decode cL_sends 329 = .ok (.if_icmp .ne 7, 3) := by decide +kernel
theorem dL_sends_332 : decode cL_sends 332 = .ok (.iconst 4, 1) := by decide +kernel
theorem dL_sends_333 : decode cL_sends 333 = .ok (.goto 7, 3) := by decide +kernel
theorem dL_sends_336 : decode cL_sends 336 = .ok (.iload 7, 2) := by decide +kernel
theorem dL_sends_338 : decode cL_sends 338 = .ok (.iconst 1, 1) := by decide +kernel
theorem dL_sends_339 : decode cL_sends 339 = .ok (.iadd, 1) := by decide +kernel
theorem dL_sends_340 : decode cL_sends 340 = .ok (.imul, 1) := by decide +kernel
theorem dL_sends_341 : decode cL_sends 341 = .ok (.irem, 1) := by decide +kernel
theorem dL_sends_342 : decode cL_sends 342 = .ok (.ifCond .ne 32, 3) := by decide +kernel
theorem dL_sends_345 : decode cL_sends 345 = .ok (.aload_n 0, 1) := by decide +kernel
theorem dL_sends_346 : decode cL_sends 346 = .ok (.iload 5, 2) := by decide +kernel
theorem dL_sends_348 : decode cL_sends 348 = .ok (.invokevirtual 98, 3) := by decide +kernel
theorem dL_sends_351 : decode cL_sends 351 = .ok (.iload 11, 2) := by decide +kernel
theorem dL_sends_353 : decode cL_sends 353 = .ok (.if_icmp .gt 21, 3) := by decide +kernel
theorem dL_sends_356 : decode cL_sends 356 = .ok (.aload_n 0, 1) := by decide +kernel
theorem dL_sends_357 : decode cL_sends 357 = .ok (.iload 5, 2) := by decide +kernel
theorem dL_sends_359 : decode cL_sends 359 = .ok (.invokevirtual 98, 3) := by decide +kernel
theorem dL_sends_362 : decode cL_sends 362 = .ok (.iload 11, 2) := by decide +kernel
theorem dL_sends_364 : decode cL_sends 364 = .ok (.iload 14, 2) := by decide +kernel
theorem dL_sends_366 : decode cL_sends 366 = .ok (.isub, 1) := by decide +kernel
theorem dL_sends_367 : decode cL_sends 367 = .ok (.if_icmp .lt 7, 3) := by decide +kernel
theorem dL_sends_370 : decode cL_sends 370 = .ok (.iconst 1, 1) := by decide +kernel
theorem dL_sends_371 : decode cL_sends 371 = .ok (.goto 4, 3) := by decide +kernel
theorem dL_sends_374 : decode cL_sends 374 = .ok (.iconst 0, 1) := by decide +kernel
theorem dL_sends_375 : decode cL_sends 375 = .ok (.istore 15, 2) := by decide +kernel
theorem dL_sends_377 : decode cL_sends 377 = .ok (.iconst 0, 1) := by decide +kernel
theorem dL_sends_378 : decode cL_sends 378 = .ok (.istore 16, 2) := by decide +kernel
theorem dL_sends_380 : decode cL_sends 380 = .ok (.iconst 0, 1) := by decide +kernel
theorem dL_sends_381 : decode cL_sends 381 = .ok (.istore 17, 2) := by decide +kernel
theorem dL_sends_383 : decode cL_sends 383 = .ok (.iload 17, 2) := by decide +kernel
theorem dL_sends_385 : decode cL_sends 385 = .ok (.aload_n 0, 1) := by decide +kernel
theorem dL_sends_386 : decode cL_sends 386 = .ok (.iload 12, 2) := by decide +kernel
theorem dL_sends_388 : decode cL_sends 388 = .ok (.iconst 1, 1) := by decide +kernel
theorem dL_sends_389 : decode cL_sends 389 = .ok (.invokevirtual 85, 3) := by decide +kernel
theorem dL_sends_392 : decode cL_sends 392 = .ok (.if_icmp .ge 82, 3) := by decide +kernel
theorem dL_sends_395 : decode cL_sends 395 = .ok (.iload 15, 2) := by decide +kernel
theorem dL_sends_397 : decode cL_sends 397 = .ok (.ifCond .eq 77, 3) := by decide +kernel
theorem dL_sends_400 : decode cL_sends 400 = .ok (.aload_n 0, 1) := by decide +kernel
theorem dL_sends_401 : decode cL_sends 401 = .ok (.iload 12, 2) := by decide +kernel
theorem dL_sends_403 : decode cL_sends 403 = .ok (.iload 17, 2) := by decide +kernel
theorem dL_sends_405 : decode cL_sends 405 = .ok (.iconst 1, 1) := by decide +kernel
theorem dL_sends_406 : decode cL_sends 406 = .ok (.invokevirtual 88, 3) := by decide +kernel
theorem dL_sends_409 : decode cL_sends 409 = .ok (.istore 18, 2) := by decide +kernel
theorem dL_sends_411 : decode cL_sends 411 = .ok (.iload 16, 2) := by decide +kernel
theorem dL_sends_413 : decode cL_sends 413 = .ok (.iload 18, 2) := by decide +kernel
theorem dL_sends_415 : decode cL_sends 415 = .ok (.ifCond .lt 7, 3) := by decide +kernel
theorem dL_sends_418 : decode cL_sends 418 = .ok (.iconst 1, 1) := by decide +kernel
theorem dL_sends_419 : decode cL_sends 419 = .ok (.goto 4, 3) := by decide +kernel
theorem dL_sends_422 : decode cL_sends 422 = .ok (.iconst 0, 1) := by decide +kernel
theorem dL_sends_423 : decode cL_sends 423 = .ok (.iadd, 1) := by decide +kernel
theorem dL_sends_424 : decode cL_sends 424 = .ok (.istore 16, 2) := by decide +kernel
theorem dL_sends_426 : decode cL_sends 426 = .ok (.iload 18, 2) := by decide +kernel
theorem dL_sends_428 : decode cL_sends 428 = .ok (.aload_n 0, 1) := by decide +kernel
theorem dL_sends_429 : decode cL_sends 429 = .ok (.iload 12, 2) := by decide +kernel
theorem dL_sends_431 : decode cL_sends 431 = .ok (.iload 17, 2) := by decide +kernel
theorem dL_sends_433 : decode cL_sends 433 = .ok (.iconst 0, 1) := by decide +kernel
theorem dL_sends_434 : decode cL_sends 434 = .ok (.invokevirtual 88, 3) := by decide +kernel
theorem dL_sends_437 : decode cL_sends 437 = .ok (.if_icmp .ne 28, 3) := by decide +kernel
theorem dL_sends_440 : decode cL_sends 440 = .ok (.iload 18, 2) := by decide +kernel
theorem dL_sends_442 : decode cL_sends 442 = .ok (.ifCond .lt 12, 3) := by decide +kernel
theorem dL_sends_445 : decode cL_sends 445 = .ok (.iload 8, 2) := by decide +kernel
theorem dL_sends_447 : decode cL_sends 447 = .ok (.iconst 1, 1) := by decide +kernel
theorem dL_sends_448 : decode cL_sends 448 = .ok (.if_icmp .ne 17, 3) := by decide +kernel
theorem dL_sends_451 : decode cL_sends 451 = .ok (.goto 10, 3) := by decide +kernel
theorem dL_sends_454 : decode cL_sends 454 = .ok (.iload 18, 2) := by decide +kernel
theorem dL_sends_456 : decode cL_sends 456 = .ok (.bipush (-6), 2) := by decide +kernel
theorem dL_sends_458 : decode cL_sends 458 = .ok (.if_icmp .lt 7, 3) := by decide +kernel
theorem dL_sends_461 : decode cL_sends 461 = .ok (.iconst 1, 1) := by decide +kernel
theorem dL_sends_462 : decode cL_sends 462 = .ok (.goto 4, 3) := by decide +kernel
theorem dL_sends_465 : decode cL_sends 465 = .ok (.iconst 0, 1) := by decide +kernel
theorem dL_sends_466 : decode cL_sends 466 = .ok (.istore 15, 2) := by decide +kernel
theorem dL_sends_468 : decode cL_sends 468 = .ok (.iinc 17 1, 3) := by decide +kernel
theorem dL_sends_471 : decode cL_sends 471 = .ok (.goto (-88), 3) := by decide +kernel
theorem dL_sends_474 : decode cL_sends 474 = .ok (.iload 15, 2) := by decide +kernel
theorem dL_sends_476 : decode cL_sends 476 = .ok (.ifCond .eq 44, 3) := by decide +kernel
theorem dL_sends_479 : decode cL_sends 479 = .ok (.iload 16, 2) := by decide +kernel
theorem dL_sends_481 : decode cL_sends 481 = .ok (.ifCond .gt 13, 3) := by decide +kernel
theorem dL_sends_484 : decode cL_sends 484 = .ok (.aload_n 0, 1) := by decide +kernel
theorem dL_sends_485 : decode cL_sends 485 = .ok (.iload 12, 2) := by decide +kernel
theorem dL_sends_487 : decode cL_sends 487 = .ok (.iconst 0, 1) := by decide +kernel
theorem dL_sends_488 : decode cL_sends 488 = .ok (.invokevirtual 85, 3) := by decide +kernel
theorem dL_sends_491 : decode cL_sends 491 = .ok (.ifCond .ne 29, 3) := by decide +kernel
theorem dL_sends_494 : decode cL_sends 494 = .ok (.aload_n 0, 1) := by decide +kernel
theorem dL_sends_495 : decode cL_sends 495 = .ok (.iload 12, 2) := by decide +kernel
theorem dL_sends_497 : decode cL_sends 497 = .ok (.iconst 0, 1) := by decide +kernel
theorem dL_sends_498 : decode cL_sends 498 = .ok (.invokevirtual 85, 3) := by decide +kernel
theorem dL_sends_501 : decode cL_sends 501 = .ok (.ifCond .eq 15, 3) := by decide +kernel
theorem dL_sends_504 : decode cL_sends 504 = .ok (.aload_n 0, 1) := by decide +kernel
theorem dL_sends_505 : decode cL_sends 505 = .ok (.iload 12, 2) := by decide +kernel
theorem dL_sends_507 : decode cL_sends 507 = .ok (.iconst 5, 1) := by decide +kernel
theorem dL_sends_508 : decode cL_sends 508 = .ok (.invokevirtual 85, 3) := by decide +kernel
theorem dL_sends_511 : decode cL_sends 511 = .ok (.iload 5, 2) := by decide +kernel
theorem dL_sends_513 : decode cL_sends 513 = .ok (.if_icmp .ne 7, 3) := by decide +kernel
theorem dL_sends_516 : decode cL_sends 516 = .ok (.iconst 1, 1) := by decide +kernel
theorem dL_sends_517 : decode cL_sends 517 = .ok (.goto 4, 3) := by decide +kernel
theorem dL_sends_520 : decode cL_sends 520 = .ok (.iconst 0, 1) := by decide +kernel
theorem dL_sends_521 : decode cL_sends 521 = .ok (.ireturn, 1) := by decide +kernel
theorem dL_passes_0 : decode cL_passes 0 = .ok (.aload_n 2, 1) := by decide +kernel
theorem dL_passes_1 : decode cL_passes 1 = .ok (.iconst 3, 1) := by decide +kernel
theorem dL_passes_2 : decode cL_passes 2 = .ok (.iaload, 1) := by decide +kernel
theorem dL_passes_3 : decode cL_passes 3 = .ok (.ifCond .le 178, 3) := by decide +kernel
theorem dL_passes_6 : decode cL_passes 6 = .ok (.iload_n 3, 1) := by decide +kernel
theorem dL_passes_7 : decode cL_passes 7 = .ok (.iconst 4, 1) := by decide +kernel
theorem dL_passes_8 : decode cL_passes 8 = .ok (.invokestatic 116, 3) := by decide +kernel
theorem dL_passes_11 : decode cL_passes 11 = .ok (.ifCond .ne 170, 3) := by decide +kernel
theorem dL_passes_14 : decode cL_passes 14 = .ok (.iload 4, 2) := by decide +kernel
theorem dL_passes_16 : decode cL_passes 16 = .ok (.aload_n 2, 1) := by decide +kernel
theorem dL_passes_17 : decode cL_passes 17 = .ok (.iconst 3, 1) := by decide +kernel
theorem dL_passes_18 : decode cL_passes 18 = .ok (.iaload, 1) := by decide +kernel
theorem dL_passes_19 : decode cL_passes 19 = .ok (.invokestatic 116, 3) := by decide +kernel
theorem dL_passes_22 : decode cL_passes 22 = .ok (.istore 5, 2) := by decide +kernel
theorem dL_passes_24 : decode cL_passes 24 = .ok (.aload_n 0, 1) := by decide +kernel
theorem dL_passes_25 : decode cL_passes 25 = .ok (.iload 5, 2) := by decide +kernel
theorem dL_passes_27 : decode cL_passes 27 = .ok (.iconst 1, 1) := by decide +kernel
theorem dL_passes_28 : decode cL_passes 28 = .ok (.invokevirtual 85, 3) := by decide +kernel
theorem dL_passes_31 : decode cL_passes 31 = .ok (.istore 6, 2) := by decide +kernel
theorem dL_passes_33 : decode cL_passes 33 = .ok (.iload 4, 2) := by decide +kernel
theorem dL_passes_35 : decode cL_passes 35 = .ok (.iconst 3, 1) := by decide +kernel
theorem dL_passes_36 : decode cL_passes 36 = .ok (.ishr, 1) := by decide +kernel
theorem dL_passes_37 : decode cL_passes 37 = .ok (.iload 6, 2) := by decide +kernel
theorem dL_passes_39 : decode cL_passes 39 = .ok (.invokestatic 116, 3) := by decide +kernel
theorem dL_passes_42 : decode cL_passes 42 = .ok (.istore 7, 2) := by decide +kernel
theorem dL_passes_44 : decode cL_passes 44 = .ok (.iload 4, 2) := by decide +kernel
theorem dL_passes_46 : decode cL_passes 46 = .ok (.bipush 6, 2) := by decide +kernel
theorem dL_passes_48 : decode cL_passes 48 = .ok (.ishr, 1) := by decide +kernel
theorem dL_passes_49 : decode cL_passes 49 = .ok (.iconst 5, 1) := by decide +kernel
theorem dL_passes_50 : decode cL_passes 50 = .ok (.invokestatic 116, 3) := by decide +kernel
theorem dL_passes_53 : decode cL_passes 53 = .ok (.istore 8, 2) := by decide +kernel
theorem dL_passes_55 : decode cL_passes 55 = .ok (.aload_n 0, 1) := by decide +kernel
theorem dL_passes_56 : decode cL_passes 56 = .ok (.iload 5, 2) := by decide +kernel
theorem dL_passes_58 : decode cL_passes 58 = .ok (.iload 7, 2) := by decide +kernel
theorem dL_passes_60 : decode cL_passes 60 = .ok (.iconst 0, 1) := by decide +kernel
theorem dL_passes_61 : decode cL_passes 61 = .ok (.invokevirtual 88, 3) := by decide +kernel
theorem dL_passes_64 : decode cL_passes 64 = .ok (.istore 9, 2) := by decide +kernel
theorem dL_passes_66 : decode cL_passes 66 = .ok (.aload_n 0, 1) := by decide +kernel
theorem dL_passes_67 : decode cL_passes 67 = .ok (.aload_n 1, 1) := by decide +kernel
theorem dL_passes_68 : decode cL_passes 68 = .ok (.bipush 14, 2) := by decide +kernel
theorem dL_passes_70 : decode cL_passes 70 = .ok (.iload 5, 2) := by decide +kernel
theorem dL_passes_72 : decode cL_passes 72 = .ok (.iload 7, 2) := by decide +kernel
theorem dL_passes_74 : decode cL_passes 74 = .ok (.iload 8, 2) := by decide +kernel
theorem dL_passes_76 : decode cL_passes 76 = .ok (.iload 4, 2) := by decide +kernel
theorem dL_passes_78 : decode cL_passes 78 = .ok (.bipush 9, 2) := by decide +kernel
theorem dL_passes_80 : decode cL_passes 80 = .ok (.ishr, 1) := by decide +kernel
theorem dL_passes_81 : decode cL_passes 81 = .ok (.bipush 26, 2) := by decide +kernel
theorem dL_passes_83 : decode cL_passes 83 = .ok (.invokestatic 116, 3) := by decide +kernel
theorem dL_passes_86 : decode cL_passes 86 = .ok (.iconst 0, 1) := by decide +kernel
theorem dL_passes_87 : decode cL_passes 87 = .ok (.invokestatic 120, 3) := by decide +kernel
theorem dL_passes_90 : decode cL_passes 90 = .ok (.istore 10, 2) := by decide +kernel
theorem dL_passes_92 : decode cL_passes 92 = .ok (.iload 10, 2) := by decide +kernel
theorem dL_passes_94 : decode cL_passes 94 = .ok (.ldc 23, 2) := by decide +kernel
theorem dL_passes_96 : decode cL_passes 96 = .ok (.if_icmp .ne 26, 3) := by decide +kernel
theorem dL_passes_99 : decode cL_passes 99 = .ok (.aload_n 0, 1) := by decide +kernel
theorem dL_passes_100 : decode cL_passes 100 = .ok (.iload 5, 2) := by decide +kernel
theorem dL_passes_102 : decode cL_passes 102 = .ok (.iconst 0, 1) := by decide +kernel
theorem dL_passes_103 : decode cL_passes 103 = .ok (.invokevirtual 85, 3) := by decide +kernel
theorem dL_passes_106 : decode cL_passes 106 = .ok (.ifCond .ne 8, 3) := by decide +kernel
theorem dL_passes_109 : decode cL_passes 109 = .ok (.iload 9, 2) := by decide +kernel
theorem dL_passes_111 : decode cL_passes 111 = .ok (.ifCond .ge 7, 3) := by decide +kernel
theorem dL_passes_114 : decode cL_passes 114 = .ok (.iconst 1, 1) := by decide +kernel
theorem dL_passes_115 : decode cL_passes 115 = .ok (.goto 65, 3) := by decide +kernel
theorem dL_passes_118 : decode cL_passes 118 = .ok (.iconst 0, 1) := by decide +kernel
theorem dL_passes_119 : decode cL_passes 119 = .ok (.goto 61, 3) := by decide +kernel
theorem dL_passes_122 : decode cL_passes 122 = .ok (.iload 10, 2) := by decide +kernel
theorem dL_passes_124 : decode cL_passes 124 = .ok (.ifCond .lt 55, 3) := by decide +kernel
theorem dL_passes_127 : decode cL_passes 127 = .ok (.iload 10, 2) := by decide +kernel
theorem dL_passes_129 : decode cL_passes 129 = .ok (.iload 9, 2) := by decide +kernel
theorem dL_passes_131 : decode cL_passes 131 = .ok (.invokestatic 124, 3) := by decide +kernel
theorem dL_passes_134 : decode cL_passes 134 = .ok (.iconst 1, 1) := by decide +kernel
theorem dL_passes_135 : decode cL_passes 135 = .ok (.if_icmp .gt 44, 3) := by decide +kernel
theorem dL_passes_138 : decode cL_passes 138 = .ok (.aload_n 0, 1) := by decide +kernel
theorem dL_passes_139 : decode cL_passes 139 = .ok (.iload 5, 2) := by decide +kernel
theorem dL_passes_141 : decode cL_passes 141 = .ok (.iload 7, 2) := by decide +kernel
theorem dL_passes_143 : decode cL_passes 143 = .ok (.iconst 0, 1) := by decide +kernel
theorem dL_passes_144 : decode cL_passes 144 = .ok (.invokevirtual 88, 3) := by decide +kernel
theorem dL_passes_147 : decode cL_passes 147 = .ok (.iload 10, 2) := by decide +kernel
theorem dL_passes_149 : decode cL_passes 149 = .ok (.if_icmp .ne 30, 3) := by decide +kernel
theorem dL_passes_152 : decode cL_passes 152 = .ok (.aload_n 0, 1) := by decide +kernel
theorem dL_passes_153 : decode cL_passes 153 = .ok (.iload 5, 2) := by decide +kernel
theorem dL_passes_155 : decode cL_passes 155 = .ok (.invokevirtual 95, 3) := by decide +kernel
theorem dL_passes_158 : decode cL_passes 158 = .ok (.iconst (-1), 1) := by decide +kernel
theorem dL_passes_159 : decode cL_passes 159 = .ok (.if_icmp .eq 16, 3) := by decide +kernel
theorem dL_passes_162 : decode cL_passes 162 = .ok (.aload_n 0, 1) := by decide +kernel
theorem dL_passes_163 : decode cL_passes 163 = .ok (.iload 5, 2) := by decide +kernel
theorem dL_passes_165 : decode cL_passes 165 = .ok (.invokevirtual 95, 3) := by decide +kernel
theorem dL_passes_168 : decode cL_passes 168 = .ok (.iconst 5, 1) := by decide +kernel
theorem dL_passes_169 : decode cL_passes 169 = .ok (.iload 6, 2) := by decide +kernel
theorem dL_passes_171 : decode cL_passes 171 = .ok (.imul, 1) := by decide +kernel
theorem dL_passes_172 : decode cL_passes 172 = .ok (.if_icmp .ge 7, 3) := by decide +kernel
theorem dL_passes_175 : decode cL_passes 175 = .ok (.iconst 1, 1) := by decide +kernel
theorem dL_passes_176 : decode cL_passes 176 = .ok (.goto 4, 3) := by decide +kernel
theorem dL_passes_179 : decode cL_passes 179 = .ok (.iconst 0, 1) := by decide +kernel
theorem dL_passes_180 : decode cL_passes 180 = .ok (.ireturn, 1) := by decide +kernel
theorem dL_passes_181 : decode cL_passes 181 = .ok (.bipush 60, 2) := by decide +kernel
theorem dL_passes_183 : decode cL_passes 183 = .ok (.newarray .int, 2) := by decide +kernel
theorem dL_passes_185 : decode cL_passes 185 = .ok (.astore 5, 2) := by decide +kernel
theorem dL_passes_187 : decode cL_passes 187 = .ok (.iconst 0, 1) := by decide +kernel
theorem dL_passes_188 : decode cL_passes 188 = .ok (.istore 6, 2) := by decide +kernel
theorem dL_passes_190 : decode cL_passes 190 = .ok (.iload 6, 2) := by decide +kernel
theorem dL_passes_192 : decode cL_passes 192 = .ok (.aload_n 2, 1) := by decide +kernel
theorem dL_passes_193 : decode cL_passes 193 = .ok (.iconst 3, 1) := by decide +kernel
theorem dL_passes_194 : decode cL_passes 194 = .ok (.iaload, 1) := by decide +kernel
theorem dL_passes_195 : decode cL_passes 195 = .ok (.if_icmp .ge 21, 3) := by decide +kernel
theorem dL_passes_198 : decode cL_passes 198 = .ok (.aload 5, 2) := by decide +kernel
theorem dL_passes_200 : decode cL_passes 200 = .ok (.iload 6, 2) := by decide +kernel
theorem dL_passes_202 : decode cL_passes 202 = .ok (.aload_n 0, 1) := by decide +kernel
theorem dL_passes_203 : decode cL_passes 203 = .ok (.iload 6, 2) := by decide +kernel
theorem dL_passes_205 : decode cL_passes 205 = .ok (.iconst 0, 1) := by decide +kernel
theorem dL_passes_206 : decode cL_passes 206 = .ok (.invokevirtual 85, 3) := by decide +kernel
theorem dL_passes_209 : decode cL_passes 209 = .ok (.iastore, 1) := by decide +kernel
theorem dL_passes_210 : decode cL_passes 210 = .ok (.iinc 6 1, 3) := by decide +kernel
theorem dL_passes_213 : decode cL_passes 213 = .ok (.goto (-23), 3) := by decide +kernel
theorem dL_passes_216 : decode cL_passes 216 = .ok (.iload_n 3, 1) := by decide +kernel
theorem dL_passes_217 : decode cL_passes 217 = .ok (.bipush 12, 2) := by decide +kernel
theorem dL_passes_219 : decode cL_passes 219 = .ok (.invokestatic 116, 3) := by decide +kernel
theorem dL_passes_222 : decode cL_passes 222 = .ok (.iconst 1, 1) := by decide +kernel
theorem dL_passes_223 : decode cL_passes 223 = .ok (.if_icmp .ne 18, 3) := by decide +kernel
theorem dL_passes_226 : decode cL_passes 226 = .ok (.aload_n 0, 1) := by decide +kernel
theorem dL_passes_227 : decode cL_passes 227 = .ok (.aload_n 1, 1) := by decide +kernel
theorem dL_passes_228 : decode cL_passes 228 = .ok (.bipush 16, 2) := by decide +kernel
theorem dL_passes_230 : decode cL_passes 230 = .ok (.iconst 1, 1) := by decide +kernel
theorem dL_passes_231 : decode cL_passes 231 = .ok (.iconst 0, 1) := by decide +kernel
theorem dL_passes_232 : decode cL_passes 232 = .ok (.iconst 0, 1) := by decide +kernel
theorem dL_passes_233 : decode cL_passes 233 = .ok (.iconst 0, 1) := by decide +kernel
theorem dL_passes_234 : decode cL_passes 234 = .ok (.iconst 0, 1) := by decide +kernel
theorem dL_passes_235 : decode cL_passes 235 = .ok (.invokestatic 120, 3) := by decide +kernel
theorem dL_passes_238 : decode cL_passes 238 = .ok (.goto 23, 3) := by decide +kernel
theorem dL_passes_241 : decode cL_passes 241 = .ok (.aload_n 0, 1) := by decide +kernel
theorem dL_passes_242 : decode cL_passes 242 = .ok (.aload_n 1, 1) := by decide +kernel
theorem dL_passes_243 : decode cL_passes 243 = .ok (.bipush 15, 2) := by decide +kernel
theorem dL_passes_245 : decode cL_passes 245 = .ok (.iconst 1, 1) := by decide +kernel
theorem dL_passes_246 : decode cL_passes 246 = .ok (.iload 4, 2) := by decide +kernel
theorem dL_passes_248 : decode cL_passes 248 = .ok (.bipush 9, 2) := by decide +kernel
theorem dL_passes_250 : decode cL_passes 250 = .ok (.invokestatic 116, 3) := by decide +kernel
theorem dL_passes_253 : decode cL_passes 253 = .ok (.iadd, 1) := by decide +kernel
theorem dL_passes_254 : decode cL_passes 254 = .ok (.iconst 0, 1) := by decide +kernel
theorem dL_passes_255 : decode cL_passes 255 = .ok (.iconst 0, 1) := by decide +kernel
theorem dL_passes_256 : decode cL_passes 256 = .ok (.iconst 0, 1) := by decide +kernel
theorem dL_passes_257 : decode cL_passes 257 = .ok (.iconst 0, 1) := by decide +kernel
theorem dL_passes_258 : decode cL_passes 258 = .ok (.invokestatic 120, 3) := by decide +kernel
theorem dL_passes_261 : decode cL_passes 261 = .ok (.istore 6, 2) := by decide +kernel
theorem dL_passes_263 : decode cL_passes 263 = .ok (.iload 6, 2) := by decide +kernel
theorem dL_passes_265 : decode cL_passes 265 = .ok (.ifCond .le 7, 3) := by decide +kernel
theorem dL_passes_268 : decode cL_passes 268 = .ok (.iconst 1, 1) := by decide +kernel
theorem dL_passes_269 : decode cL_passes 269 = .ok (.goto 4, 3) := by decide +kernel
theorem dL_passes_272 : decode cL_passes 272 = .ok (.iconst 0, 1) := by decide +kernel
theorem dL_passes_273 : decode cL_passes 273 = .ok (.istore 7, 2) := by decide +kernel
theorem dL_passes_275 : decode cL_passes 275 = .ok (.iconst 0, 1) := by decide +kernel
theorem dL_passes_276 : decode cL_passes 276 = .ok (.istore 8, 2) := by decide +kernel
theorem dL_passes_278 : decode cL_passes 278 = .ok (.iload 8, 2) := by decide +kernel
theorem dL_passes_280 : decode cL_passes 280 = .ok (.aload_n 2, 1) := by decide +kernel
theorem dL_passes_281 : decode cL_passes 281 = .ok (.iconst 3, 1) := by decide +kernel
theorem dL_passes_282 : decode cL_passes 282 = .ok (.iaload, 1) := by decide +kernel
theorem dL_passes_283 : decode cL_passes 283 = .ok (.if_icmp .ge 107, 3) := by decide +kernel
theorem dL_passes_286 : decode cL_passes 286 = .ok (.iload 7, 2) := by decide +kernel
theorem dL_passes_288 : decode cL_passes 288 = .ok (.ifCond .eq 102, 3) := by decide +kernel
theorem dL_passes_291 : decode cL_passes 291 = .ok (.aload_n 0, 1) := by decide +kernel
theorem dL_passes_292 : decode cL_passes 292 = .ok (.iload 8, 2) := by decide +kernel
theorem dL_passes_294 : decode cL_passes 294 = .ok (.iconst 0, 1) := by decide +kernel
theorem dL_passes_295 : decode cL_passes 295 = .ok (.invokevirtual 85, 3) := by decide +kernel
theorem dL_passes_298 : decode cL_passes 298 = .ok (.istore 9, 2) := by decide +kernel
theorem dL_passes_300 : decode cL_passes 300 = .ok (.aload 5, 2) := by decide +kernel
theorem dL_passes_302 : decode cL_passes 302 = .ok (.iload 8, 2) := by decide +kernel
theorem dL_passes_304 : decode cL_passes 304 = .ok (.iaload, 1) := by decide +kernel
theorem dL_passes_305 : decode cL_passes 305 = .ok (.ifCond .eq 13, 3) := by decide +kernel
theorem dL_passes_308 : decode cL_passes 308 = .ok (.iload 9, 2) := by decide +kernel
theorem dL_passes_310 : decode cL_passes 310 = .ok (.aload 5, 2) := by decide +kernel
theorem dL_passes_312 : decode cL_passes 312 = .ok (.iload 8, 2) := by decide +kernel
theorem dL_passes_314 : decode cL_passes 314 = .ok (.iaload, 1) := by decide +kernel
theorem dL_passes_315 : decode cL_passes 315 = .ok (.if_icmp .ne 66, 3) := by decide +kernel
theorem dL_passes_318 : decode cL_passes 318 = .ok (.iload 9, 2) := by decide +kernel
theorem dL_passes_320 : decode cL_passes 320 = .ok (.ifCond .ne 7, 3) := by decide +kernel
theorem dL_passes_323 : decode cL_passes 323 = .ok (.iconst 1, 1) := by decide +kernel
theorem dL_passes_324 : decode cL_passes 324 = .ok (.goto 4, 3) := by decide +kernel
theorem dL_passes_327 : decode cL_passes 327 = .ok (.iconst 0, 1) := by decide +kernel
theorem dL_passes_328 : decode cL_passes 328 = .ok (.aload_n 0, 1) := by decide +kernel
theorem dL_passes_329 : decode cL_passes 329 = .ok (.iload 8, 2) := by decide +kernel
theorem dL_passes_331 : decode cL_passes 331 = .ok (.iconst 4, 1) := by decide +kernel
theorem dL_passes_332 : decode cL_passes 332 = .ok (.invokevirtual 85, 3) := by decide +kernel
theorem dL_passes_335 : decode cL_passes 335 = .ok (.iconst (-1), 1) := by decide +kernel
theorem dL_passes_336 : decode cL_passes 336 = .ok (.if_icmp .eq 7, 3) := by decide +kernel
theorem dL_passes_339 : decode cL_passes 339 = .ok (.iconst 1, 1) := by decide +kernel
theorem dL_passes_340 : decode cL_passes 340 = .ok (.goto 4, 3) := by decide +kernel
theorem dL_passes_343 : decode cL_passes 343 = .ok (.iconst 0, 1) := by decide +kernel
theorem dL_passes_344 : decode cL_passes 344 = .ok (.if_icmp .ne 37, 3) := by decide +kernel
theorem dL_passes_347 : decode cL_passes 347 = .ok (.iload 9, 2) := by decide +kernel
theorem dL_passes_349 : decode cL_passes 349 = .ok (.iconst 2, 1) := by decide +kernel
theorem dL_passes_350 : decode cL_passes 350 = .ok (.if_icmp .ne 7, 3) := by decide +kernel
theorem dL_passes_353 : decode cL_passes 353 = .ok (.iconst 1, 1) := by decide +kernel
theorem dL_passes_354 : decode cL_passes 354 = .ok (.goto 4, 3) := by decide +kernel
theorem dL_passes_357 : decode cL_passes 357 = .ok (.iconst 0, 1) := by decide +kernel
theorem dL_passes_358 : decode cL_passes 358 = .ok (.aload_n 0, 1) := by decide +kernel
theorem dL_passes_359 : decode cL_passes 359 = .ok (.iload 8, 2) := by decide +kernel
theorem dL_passes_361 : decode cL_passes 361 = .ok (.iconst 5, 1) := by decide +kernel
theorem dL_passes_362 : decode cL_passes 362 = .ok (.invokevirtual 85, 3) := by decide +kernel
theorem dL_passes_365 : decode cL_passes 365 = .ok (.iconst (-1), 1) := by decide +kernel
theorem dL_passes_366 : decode cL_passes 366 = .ok (.if_icmp .eq 7, 3) := by decide +kernel
theorem dL_passes_369 : decode cL_passes 369 = .ok (.iconst 1, 1) := by decide +kernel
theorem dL_passes_370 : decode cL_passes 370 = .ok (.goto 4, 3) := by decide +kernel
theorem dL_passes_373 : decode cL_passes 373 = .ok (.iconst 0, 1) := by decide +kernel
theorem dL_passes_374 : decode cL_passes 374 = .ok (.if_icmp .ne 7, 3) := by decide +kernel
theorem dL_passes_377 : decode cL_passes 377 = .ok (.iconst 1, 1) := by decide +kernel
theorem dL_passes_378 : decode cL_passes 378 = .ok (.goto 4, 3) := by decide +kernel
theorem dL_passes_381 : decode cL_passes 381 = .ok (.iconst 0, 1) := by decide +kernel
theorem dL_passes_382 : decode cL_passes 382 = .ok (.istore 7, 2) := by decide +kernel
theorem dL_passes_384 : decode cL_passes 384 = .ok (.iinc 8 1, 3) := by decide +kernel
theorem dL_passes_387 : decode cL_passes 387 = .ok (.goto (-109), 3) := by decide +kernel
theorem dL_passes_390 : decode cL_passes 390 = .ok (.iload 7, 2) := by decide +kernel
theorem dL_passes_392 : decode cL_passes 392 = .ok (.ireturn, 1) := by decide +kernel
theorem dL_sound_0 : decode cL_sound 0 = .ok (.iconst 0, 1) := by decide +kernel
theorem dL_sound_1 : decode cL_sound 1 = .ok (.istore_n 2, 1) := by decide +kernel
theorem dL_sound_2 : decode cL_sound 2 = .ok (.iconst 0, 1) := by decide +kernel
theorem dL_sound_3 : decode cL_sound 3 = .ok (.istore_n 3, 1) := by decide +kernel
theorem dL_sound_4 : decode cL_sound 4 = .ok (.iconst 1, 1) := by decide +kernel
theorem dL_sound_5 : decode cL_sound 5 = .ok (.istore 4, 2) := by decide +kernel
theorem dL_sound_7 : decode cL_sound 7 = .ok (.iconst 0, 1) := by decide +kernel
theorem dL_sound_8 : decode cL_sound 8 = .ok (.istore 5, 2) := by decide +kernel
theorem dL_sound_10 : decode cL_sound 10 = .ok (.iload 5, 2) := by decide +kernel
theorem dL_sound_12 : decode cL_sound 12 = .ok (.aload_n 1, 1) := by decide +kernel
theorem dL_sound_13 : decode cL_sound 13 = .ok (.iconst 0, 1) := by decide +kernel
theorem dL_sound_14 : decode cL_sound 14 = .ok (.iaload, 1) := by decide +kernel
theorem dL_sound_15 : decode cL_sound 15 = .ok (.if_icmp .ge 91, 3) := by decide +kernel
theorem dL_sound_18 : decode cL_sound 18 = .ok (.iload 4, 2) := by decide +kernel
theorem dL_sound_20 : decode cL_sound 20 = .ok (.ifCond .eq 86, 3) := by decide +kernel
theorem dL_sound_23 : decode cL_sound 23 = .ok (.iload_n 2, 1) := by decide +kernel
theorem dL_sound_24 : decode cL_sound 24 = .ok (.aload_n 0, 1) := by decide +kernel
theorem dL_sound_25 : decode cL_sound 25 = .ok (.iload 5, 2) := by decide +kernel
theorem dL_sound_27 : decode cL_sound 27 = .ok (.invokevirtual 98, 3) := by decide +kernel
theorem dL_sound_30 : decode cL_sound 30 = .ok (.iadd, 1) := by decide +kernel
theorem dL_sound_31 : decode cL_sound 31 = .ok (.istore_n 2, 1) := by decide +kernel
theorem dL_sound_32 : decode cL_sound 32 = .ok (.aload_n 0, 1) := by decide +kernel
theorem dL_sound_33 : decode cL_sound 33 = .ok (.iload 5, 2) := by decide +kernel
theorem dL_sound_35 : decode cL_sound 35 = .ok (.invokevirtual 98, 3) := by decide +kernel
theorem dL_sound_38 : decode cL_sound 38 = .ok (.aload_n 0, 1) := by decide +kernel
theorem dL_sound_39 : decode cL_sound 39 = .ok (.iload 5, 2) := by decide +kernel
theorem dL_sound_41 : decode cL_sound 41 = .ok (.invokevirtual 101, 3) := by decide +kernel
theorem dL_sound_44 : decode cL_sound 44 = .ok (.if_icmp .ne 53, 3) := by decide +kernel
theorem dL_sound_47 : decode cL_sound 47 = .ok (.aload_n 0, 1) := by decide +kernel
theorem dL_sound_48 : decode cL_sound 48 = .ok (.iload 5, 2) := by decide +kernel
theorem dL_sound_50 : decode cL_sound 50 = .ok (.iconst 1, 1) := by decide +kernel
theorem dL_sound_51 : decode cL_sound 51 = .ok (.invokevirtual 69, 3) := by decide +kernel
theorem dL_sound_54 : decode cL_sound 54 = .ok (.aload_n 0, 1) := by decide +kernel
theorem dL_sound_55 : decode cL_sound 55 = .ok (.iload 5, 2) := by decide +kernel
theorem dL_sound_57 : decode cL_sound 57 = .ok (.iconst 0, 1) := by decide +kernel
theorem dL_sound_58 : decode cL_sound 58 = .ok (.invokevirtual 69, 3) := by decide +kernel
theorem dL_sound_61 : decode cL_sound 61 = .ok (.if_icmp .gt 36, 3) := by decide +kernel
theorem dL_sound_64 : decode cL_sound 64 = .ok (.aload_n 0, 1) := by decide +kernel
theorem dL_sound_65 : decode cL_sound 65 = .ok (.iload 5, 2) := by decide +kernel
theorem dL_sound_67 : decode cL_sound 67 = .ok (.iconst 0, 1) := by decide +kernel
theorem dL_sound_68 : decode cL_sound 68 = .ok (.invokevirtual 69, 3) := by decide +kernel
theorem dL_sound_71 : decode cL_sound 71 = .ok (.ifCond .ne 7, 3) := by decide +kernel
theorem dL_sound_74 : decode cL_sound 74 = .ok (.iconst 1, 1) := by decide +kernel
theorem dL_sound_75 : decode cL_sound 75 = .ok (.goto 4, 3) := by decide +kernel
theorem dL_sound_78 : decode cL_sound 78 = .ok (.iconst 0, 1) := by decide +kernel
theorem dL_sound_79 : decode cL_sound 79 = .ok (.aload_n 1, 1) := by decide +kernel
theorem dL_sound_80 : decode cL_sound 80 = .ok (.iconst 5, 1) := by decide +kernel
theorem dL_sound_81 : decode cL_sound 81 = .ok (.iaload, 1) := by decide +kernel
theorem dL_sound_82 : decode cL_sound 82 = .ok (.ifCond .ne 7, 3) := by decide +kernel
theorem dL_sound_85 : decode cL_sound 85 = .ok (.iconst 1, 1) := by decide +kernel
theorem dL_sound_86 : decode cL_sound 86 = .ok (.goto 4, 3) := by decide +kernel
theorem dL_sound_89 : decode cL_sound 89 = .ok (.iconst 0, 1) := by decide +kernel
theorem dL_sound_90 : decode cL_sound 90 = .ok (.if_icmp .ne 7, 3) := by decide +kernel
theorem dL_sound_93 : decode cL_sound 93 = .ok (.iconst 1, 1) := by decide +kernel
theorem dL_sound_94 : decode cL_sound 94 = .ok (.goto 4, 3) := by decide +kernel
theorem dL_sound_97 : decode cL_sound 97 = .ok (.iconst 0, 1) := by decide +kernel
theorem dL_sound_98 : decode cL_sound 98 = .ok (.istore 4, 2) := by decide +kernel
theorem dL_sound_100 : decode cL_sound 100 = .ok (.iinc 5 1, 3) := by decide +kernel
theorem dL_sound_103 : decode cL_sound 103 = .ok (.goto (-93), 3) := by decide +kernel
theorem dL_sound_106 : decode cL_sound 106 = .ok (.iconst 0, 1) := by decide +kernel
theorem dL_sound_107 : decode cL_sound 107 = .ok (.istore 5, 2) := by decide +kernel
theorem dL_sound_109 : decode cL_sound 109 = .ok (.iload 5, 2) := by decide +kernel
theorem dL_sound_111 : decode cL_sound 111 = .ok (.aload_n 1, 1) := by decide +kernel
theorem dL_sound_112 : decode cL_sound 112 = .ok (.iconst 3, 1) := by decide +kernel
theorem dL_sound_113 : decode cL_sound 113 = .ok (.iaload, 1) := by decide +kernel
theorem dL_sound_114 : decode cL_sound 114 = .ok (.if_icmp .ge 19, 3) := by decide +kernel
theorem dL_sound_117 : decode cL_sound 117 = .ok (.iload_n 3, 1) := by decide +kernel
theorem dL_sound_118 : decode cL_sound 118 = .ok (.aload_n 0, 1) := by decide +kernel
theorem dL_sound_119 : decode cL_sound 119 = .ok (.iload 5, 2) := by decide +kernel
theorem dL_sound_121 : decode cL_sound 121 = .ok (.iconst 3, 1) := by decide +kernel
theorem dL_sound_122 : decode cL_sound 122 = .ok (.invokevirtual 85, 3) := by decide +kernel
theorem dL_sound_125 : decode cL_sound 125 = .ok (.iadd, 1) := by decide +kernel
theorem dL_sound_126 : decode cL_sound 126 = .ok (.istore_n 3, 1) := by decide +kernel
theorem dL_sound_127 : decode cL_sound 127 = .ok (.iinc 5 1, 3) := by decide +kernel
theorem dL_sound_130 : decode cL_sound 130 = .ok (.goto (-21), 3) := by decide +kernel
theorem dL_sound_133 : decode cL_sound 133 = .ok (.iload 4, 2) := by decide +kernel
theorem dL_sound_135 : decode cL_sound 135 = .ok (.ifCond .eq 15, 3) := by decide +kernel
theorem dL_sound_138 : decode cL_sound 138 = .ok (.iload_n 2, 1) := by decide +kernel
theorem dL_sound_139 : decode cL_sound 139 = .ok (.ifCond .ne 11, 3) := by decide +kernel
theorem dL_sound_142 : decode cL_sound 142 = .ok (.iload_n 3, 1) := by decide +kernel
theorem dL_sound_143 : decode cL_sound 143 = .ok (.ifCond .lt 7, 3) := by decide +kernel
theorem dL_sound_146 : decode cL_sound 146 = .ok (.iconst 1, 1) := by decide +kernel
theorem dL_sound_147 : decode cL_sound 147 = .ok (.goto 4, 3) := by decide +kernel
theorem dL_sound_150 : decode cL_sound 150 = .ok (.iconst 0, 1) := by decide +kernel
theorem dL_sound_151 : decode cL_sound 151 = .ok (.ireturn, 1) := by decide +kernel
theorem dL_refused_0 : decode cL_refused 0 = .ok (.aload_n 0, 1) := by decide +kernel
theorem dL_refused_1 : decode cL_refused 1 = .ok (.aload_n 1, 1) := by decide +kernel
theorem dL_refused_2 : decode cL_refused 2 = .ok (.invokestatic 127, 3) := by decide +kernel
theorem dL_refused_5 : decode cL_refused 5 = .ok (.lstore_n 2, 1) := by decide +kernel
theorem dL_refused_6 : decode cL_refused 6 = .ok (.aload_n 0, 1) := by decide +kernel
theorem dL_refused_7 : decode cL_refused 7 = .ok (.iconst 0, 1) := by decide +kernel
theorem dL_refused_8 : decode cL_refused 8 = .ok (.iconst 0, 1) := by decide +kernel
theorem dL_refused_9 : decode cL_refused 9 = .ok (.iconst 0, 1) := by decide +kernel
theorem dL_refused_10 : decode cL_refused 10 = .ok (.iconst 0, 1) := by decide +kernel
theorem dL_refused_11 : decode cL_refused 11 = .ok (.iconst 0, 1) := by decide +kernel
theorem dL_refused_12 : decode cL_refused 12 = .ok (.iconst 0, 1) := by decide +kernel
theorem dL_refused_13 : decode cL_refused 13 = .ok (.invokestatic 112, 3) := by decide +kernel
theorem dL_refused_16 : decode cL_refused 16 = .ok (.ldc 20, 2) := by decide +kernel
theorem dL_refused_18 : decode cL_refused 18 = .ok (.if_icmp .ne 264, 3) := by decide +kernel
theorem dL_refused_21 : decode cL_refused 21 = .ok (.aload_n 0, 1) := by decide +kernel
theorem dL_refused_22 : decode cL_refused 22 = .ok (.iconst 1, 1) := by decide +kernel
theorem dL_refused_23 : decode cL_refused 23 = .ok (.iconst 0, 1) := by decide +kernel
theorem dL_refused_24 : decode cL_refused 24 = .ok (.bipush 30, 2) := by decide +kernel
theorem dL_refused_26 : decode cL_refused 26 = .ok (.iconst (-1), 1) := by decide +kernel
theorem dL_refused_27 : decode cL_refused 27 = .ok (.iconst (-1), 1) := by decide +kernel
theorem dL_refused_28 : decode cL_refused 28 = .ok (.iconst (-1), 1) := by decide +kernel
theorem dL_refused_29 : decode cL_refused 29 = .ok (.invokestatic 112, 3) := by decide +kernel
theorem dL_refused_32 : decode cL_refused 32 = .ok (.ldc 17, 2) := by decide +kernel
theorem dL_refused_34 : decode cL_refused 34 = .ok (.if_icmp .ne 248, 3) := by decide +kernel
theorem dL_refused_37 : decode cL_refused 37 = .ok (.aload_n 0, 1) := by decide +kernel
theorem dL_refused_38 : decode cL_refused 38 = .ok (.iconst 1, 1) := by decide +kernel
theorem dL_refused_39 : decode cL_refused 39 = .ok (.ldc 119, 2) := by decide +kernel
theorem dL_refused_41 : decode cL_refused 41 = .ok (.iconst 0, 1) := by decide +kernel
theorem dL_refused_42 : decode cL_refused 42 = .ok (.iconst (-1), 1) := by decide +kernel
theorem dL_refused_43 : decode cL_refused 43 = .ok (.iconst (-1), 1) := by decide +kernel
theorem dL_refused_44 : decode cL_refused 44 = .ok (.iconst (-1), 1) := by decide +kernel
theorem dL_refused_45 : decode cL_refused 45 = .ok (.invokestatic 112, 3) := by decide +kernel
theorem dL_refused_48 : decode cL_refused 48 = .ok (.ldc 20, 2) := by decide +kernel
theorem dL_refused_50 : decode cL_refused 50 = .ok (.if_icmp .ne 232, 3) := by decide +kernel
theorem dL_refused_53 : decode cL_refused 53 = .ok (.aload_n 0, 1) := by decide +kernel
theorem dL_refused_54 : decode cL_refused 54 = .ok (.iconst 1, 1) := by decide +kernel
theorem dL_refused_55 : decode cL_refused 55 = .ok (.iconst 0, 1) := by decide +kernel
theorem dL_refused_56 : decode cL_refused 56 = .ok (.iconst 0, 1) := by decide +kernel
theorem dL_refused_57 : decode cL_refused 57 = .ok (.iconst (-1), 1) := by decide +kernel
theorem dL_refused_58 : decode cL_refused 58 = .ok (.iconst (-1), 1) := by decide +kernel
theorem dL_refused_59 : decode cL_refused 59 = .ok (.iconst 0, 1) := by decide +kernel
theorem dL_refused_60 : decode cL_refused 60 = .ok (.invokestatic 112, 3) := by decide +kernel
theorem dL_refused_63 : decode cL_refused 63 = .ok (.ldc 20, 2) := by decide +kernel
theorem dL_refused_65 : decode cL_refused 65 = .ok (.if_icmp .ne 217, 3) := by decide +kernel
theorem dL_refused_68 : decode cL_refused 68 = .ok (.aload_n 0, 1) := by decide +kernel
theorem dL_refused_69 : decode cL_refused 69 = .ok (.iconst 2, 1) := by decide +kernel
theorem dL_refused_70 : decode cL_refused 70 = .ok (.ldc 119, 2) := by decide +kernel
theorem dL_refused_72 : decode cL_refused 72 = .ok (.iconst 0, 1) := by decide +kernel
theorem dL_refused_73 : decode cL_refused 73 = .ok (.iconst 0, 1) := by decide +kernel
theorem dL_refused_74 : decode cL_refused 74 = .ok (.iconst 0, 1) := by decide +kernel
theorem dL_refused_75 : decode cL_refused 75 = .ok (.iconst 0, 1) := by decide +kernel
theorem dL_refused_76 : decode cL_refused 76 = .ok (.invokestatic 112, 3) := by decide +kernel
theorem dL_refused_79 : decode cL_refused 79 = .ok (.ldc 20, 2) := by decide +kernel
theorem dL_refused_81 : decode cL_refused 81 = .ok (.if_icmp .ne 201, 3) := by decide +kernel
theorem dL_refused_84 : decode cL_refused 84 = .ok (.aload_n 0, 1) := by decide +kernel
theorem dL_refused_85 : decode cL_refused 85 = .ok (.iconst 3, 1) := by decide +kernel
theorem dL_refused_86 : decode cL_refused 86 = .ok (.iconst 0, 1) := by decide +kernel
theorem dL_refused_87 : decode cL_refused 87 = .ok (.iconst (-1), 1) := by decide +kernel
theorem dL_refused_88 : decode cL_refused 88 = .ok (.iconst 0, 1) := by decide +kernel
theorem dL_refused_89 : decode cL_refused 89 = .ok (.iconst 0, 1) := by decide +kernel
theorem dL_refused_90 : decode cL_refused 90 = .ok (.iconst 0, 1) := by decide +kernel
theorem dL_refused_91 : decode cL_refused 91 = .ok (.invokestatic 112, 3) := by decide +kernel
theorem dL_refused_94 : decode cL_refused 94 = .ok (.ldc 17, 2) := by decide +kernel
theorem dL_refused_96 : decode cL_refused 96 = .ok (.if_icmp .ne 186, 3) := by decide +kernel
theorem dL_refused_99 : decode cL_refused 99 = .ok (.aload_n 0, 1) := by decide +kernel
theorem dL_refused_100 : decode cL_refused 100 = .ok (.iconst 5, 1) := by decide +kernel
theorem dL_refused_101 : decode cL_refused 101 = .ok (.iconst 0, 1) := by decide +kernel
theorem dL_refused_102 : decode cL_refused 102 = .ok (.bipush 8, 2) := by decide +kernel
theorem dL_refused_104 : decode cL_refused 104 = .ok (.iconst 1, 1) := by decide +kernel
theorem dL_refused_105 : decode cL_refused 105 = .ok (.iconst 1, 1) := by decide +kernel
theorem dL_refused_106 : decode cL_refused 106 = .ok (.iconst 0, 1) := by decide +kernel
theorem dL_refused_107 : decode cL_refused 107 = .ok (.invokestatic 112, 3) := by decide +kernel
theorem dL_refused_110 : decode cL_refused 110 = .ok (.ldc 17, 2) := by decide +kernel
theorem dL_refused_112 : decode cL_refused 112 = .ok (.if_icmp .ne 170, 3) := by decide +kernel
theorem dL_refused_115 : decode cL_refused 115 = .ok (.aload_n 0, 1) := by decide +kernel
theorem dL_refused_116 : decode cL_refused 116 = .ok (.iconst 5, 1) := by decide +kernel
theorem dL_refused_117 : decode cL_refused 117 = .ok (.iconst 1, 1) := by decide +kernel
theorem dL_refused_118 : decode cL_refused 118 = .ok (.iconst 1, 1) := by decide +kernel
theorem dL_refused_119 : decode cL_refused 119 = .ok (.iconst 1, 1) := by decide +kernel
theorem dL_refused_120 : decode cL_refused 120 = .ok (.iconst 1, 1) := by decide +kernel
theorem dL_refused_121 : decode cL_refused 121 = .ok (.iconst 0, 1) := by decide +kernel
theorem dL_refused_122 : decode cL_refused 122 = .ok (.invokestatic 112, 3) := by decide +kernel
theorem dL_refused_125 : decode cL_refused 125 = .ok (.ldc 20, 2) := by decide +kernel
theorem dL_refused_127 : decode cL_refused 127 = .ok (.if_icmp .ne 155, 3) := by decide +kernel
theorem dL_refused_130 : decode cL_refused 130 = .ok (.aload_n 0, 1) := by decide +kernel
theorem dL_refused_131 : decode cL_refused 131 = .ok (.iconst 5, 1) := by decide +kernel
theorem dL_refused_132 : decode cL_refused 132 = .ok (.iconst 0, 1) := by decide +kernel
theorem dL_refused_133 : decode cL_refused 133 = .ok (.iconst 1, 1) := by decide +kernel
theorem dL_refused_134 : decode cL_refused 134 = .ok (.iconst 0, 1) := by decide +kernel
theorem dL_refused_135 : decode cL_refused 135 = .ok (.iconst 1, 1) := by decide +kernel
theorem dL_refused_136 : decode cL_refused 136 = .ok (.iconst 0, 1) := by decide +kernel
theorem dL_refused_137 : decode cL_refused 137 = .ok (.invokestatic 112, 3) := by decide +kernel
theorem dL_refused_140 : decode cL_refused 140 = .ok (.ldc 20, 2) := by decide +kernel
theorem dL_refused_142 : decode cL_refused 142 = .ok (.if_icmp .ne 140, 3) := by decide +kernel
theorem dL_refused_145 : decode cL_refused 145 = .ok (.aload_n 0, 1) := by decide +kernel
theorem dL_refused_146 : decode cL_refused 146 = .ok (.bipush 6, 2) := by decide +kernel
theorem dL_refused_148 : decode cL_refused 148 = .ok (.bipush 12, 2) := by decide +kernel
theorem dL_refused_150 : decode cL_refused 150 = .ok (.iconst 0, 1) := by decide +kernel
theorem dL_refused_151 : decode cL_refused 151 = .ok (.iconst 0, 1) := by decide +kernel
theorem dL_refused_152 : decode cL_refused 152 = .ok (.iconst 0, 1) := by decide +kernel
theorem dL_refused_153 : decode cL_refused 153 = .ok (.iconst 0, 1) := by decide +kernel
theorem dL_refused_154 : decode cL_refused 154 = .ok (.invokestatic 112, 3) := by decide +kernel
theorem dL_refused_157 : decode cL_refused 157 = .ok (.ldc 17, 2) := by decide +kernel
theorem dL_refused_159 : decode cL_refused 159 = .ok (.if_icmp .ne 123, 3) := by decide +kernel
theorem dL_refused_162 : decode cL_refused 162 = .ok (.aload_n 0, 1) := by decide +kernel
theorem dL_refused_163 : decode cL_refused 163 = .ok (.bipush 7, 2) := by decide +kernel
theorem dL_refused_165 : decode cL_refused 165 = .ok (.iconst (-1), 1) := by decide +kernel
theorem dL_refused_166 : decode cL_refused 166 = .ok (.iconst 0, 1) := by decide +kernel
theorem dL_refused_167 : decode cL_refused 167 = .ok (.iconst 0, 1) := by decide +kernel
theorem dL_refused_168 : decode cL_refused 168 = .ok (.iconst 0, 1) := by decide +kernel
theorem dL_refused_169 : decode cL_refused 169 = .ok (.iconst 0, 1) := by decide +kernel
theorem dL_refused_170 : decode cL_refused 170 = .ok (.invokestatic 112, 3) := by decide +kernel
theorem dL_refused_173 : decode cL_refused 173 = .ok (.ldc 17, 2) := by decide +kernel
theorem dL_refused_175 : decode cL_refused 175 = .ok (.if_icmp .ne 107, 3) := by decide +kernel
theorem dL_refused_178 : decode cL_refused 178 = .ok (.aload_n 0, 1) := by decide +kernel
theorem dL_refused_179 : decode cL_refused 179 = .ok (.bipush 8, 2) := by decide +kernel
theorem dL_refused_181 : decode cL_refused 181 = .ok (.iconst 0, 1) := by decide +kernel
theorem dL_refused_182 : decode cL_refused 182 = .ok (.iconst (-1), 1) := by decide +kernel
theorem dL_refused_183 : decode cL_refused 183 = .ok (.iconst 0, 1) := by decide +kernel
theorem dL_refused_184 : decode cL_refused 184 = .ok (.iconst 0, 1) := by decide +kernel
theorem dL_refused_185 : decode cL_refused 185 = .ok (.iconst 0, 1) := by decide +kernel
theorem dL_refused_186 : decode cL_refused 186 = .ok (.invokestatic 112, 3) := by decide +kernel
theorem dL_refused_189 : decode cL_refused 189 = .ok (.ldc 20, 2) := by decide +kernel
theorem dL_refused_191 : decode cL_refused 191 = .ok (.if_icmp .ne 91, 3) := by decide +kernel
theorem dL_refused_194 : decode cL_refused 194 = .ok (.aload_n 0, 1) := by decide +kernel
theorem dL_refused_195 : decode cL_refused 195 = .ok (.bipush 9, 2) := by decide +kernel
theorem dL_refused_197 : decode cL_refused 197 = .ok (.iconst (-1), 1) := by decide +kernel
theorem dL_refused_198 : decode cL_refused 198 = .ok (.iconst 5, 1) := by decide +kernel
theorem dL_refused_199 : decode cL_refused 199 = .ok (.iconst 5, 1) := by decide +kernel
theorem dL_refused_200 : decode cL_refused 200 = .ok (.iconst 0, 1) := by decide +kernel
theorem dL_refused_201 : decode cL_refused 201 = .ok (.iconst 0, 1) := by decide +kernel
theorem dL_refused_202 : decode cL_refused 202 = .ok (.invokestatic 112, 3) := by decide +kernel
theorem dL_refused_205 : decode cL_refused 205 = .ok (.ldc 20, 2) := by decide +kernel
theorem dL_refused_207 : decode cL_refused 207 = .ok (.if_icmp .ne 75, 3) := by decide +kernel
theorem dL_refused_210 : decode cL_refused 210 = .ok (.aload_n 0, 1) := by decide +kernel
theorem dL_refused_211 : decode cL_refused 211 = .ok (.bipush 10, 2) := by decide +kernel
theorem dL_refused_213 : decode cL_refused 213 = .ok (.bipush 8, 2) := by decide +kernel
theorem dL_refused_215 : decode cL_refused 215 = .ok (.iconst 1, 1) := by decide +kernel
theorem dL_refused_216 : decode cL_refused 216 = .ok (.iconst 0, 1) := by decide +kernel
theorem dL_refused_217 : decode cL_refused 217 = .ok (.iconst 0, 1) := by decide +kernel
theorem dL_refused_218 : decode cL_refused 218 = .ok (.iconst 0, 1) := by decide +kernel
theorem dL_refused_219 : decode cL_refused 219 = .ok (.invokestatic 112, 3) := by decide +kernel
theorem dL_refused_222 : decode cL_refused 222 = .ok (.ldc 17, 2) := by decide +kernel
theorem dL_refused_224 : decode cL_refused 224 = .ok (.if_icmp .ne 58, 3) := by decide +kernel
theorem dL_refused_227 : decode cL_refused 227 = .ok (.aload_n 0, 1) := by decide +kernel
theorem dL_refused_228 : decode cL_refused 228 = .ok (.bipush 10, 2) := by decide +kernel
theorem dL_refused_230 : decode cL_refused 230 = .ok (.iconst 0, 1) := by decide +kernel
theorem dL_refused_231 : decode cL_refused 231 = .ok (.bipush 13, 2) := by decide +kernel
theorem dL_refused_233 : decode cL_refused 233 = .ok (.iconst 0, 1) := by decide +kernel
theorem dL_refused_234 : decode cL_refused 234 = .ok (.iconst 0, 1) := by decide +kernel
theorem dL_refused_235 : decode cL_refused 235 = .ok (.iconst 0, 1) := by decide +kernel
theorem dL_refused_236 : decode cL_refused 236 = .ok (.invokestatic 112, 3) := by decide +kernel
theorem dL_refused_239 : decode cL_refused 239 = .ok (.ldc 17, 2) := by decide +kernel
theorem dL_refused_241 : decode cL_refused 241 = .ok (.if_icmp .ne 41, 3) := by decide +kernel
theorem dL_refused_244 : decode cL_refused 244 = .ok (.aload_n 0, 1) := by decide +kernel
theorem dL_refused_245 : decode cL_refused 245 = .ok (.bipush 11, 2) := by decide +kernel
theorem dL_refused_247 : decode cL_refused 247 = .ok (.bipush 30, 2) := by decide +kernel
theorem dL_refused_249 : decode cL_refused 249 = .ok (.iconst 0, 1) := by decide +kernel
theorem dL_refused_250 : decode cL_refused 250 = .ok (.iconst 0, 1) := by decide +kernel
theorem dL_refused_251 : decode cL_refused 251 = .ok (.iconst 0, 1) := by decide +kernel
theorem dL_refused_252 : decode cL_refused 252 = .ok (.iconst 0, 1) := by decide +kernel
theorem dL_refused_253 : decode cL_refused 253 = .ok (.invokestatic 112, 3) := by decide +kernel
theorem dL_refused_256 : decode cL_refused 256 = .ok (.ldc 17, 2) := by decide +kernel
theorem dL_refused_258 : decode cL_refused 258 = .ok (.if_icmp .ne 24, 3) := by decide +kernel
theorem dL_refused_261 : decode cL_refused 261 = .ok (.aload_n 0, 1) := by decide +kernel
theorem dL_refused_262 : decode cL_refused 262 = .ok (.bipush 12, 2) := by decide +kernel
theorem dL_refused_264 : decode cL_refused 264 = .ok (.bipush 8, 2) := by decide +kernel
theorem dL_refused_266 : decode cL_refused 266 = .ok (.iconst 0, 1) := by decide +kernel
theorem dL_refused_267 : decode cL_refused 267 = .ok (.iconst 0, 1) := by decide +kernel
theorem dL_refused_268 : decode cL_refused 268 = .ok (.iconst 0, 1) := by decide +kernel
theorem dL_refused_269 : decode cL_refused 269 = .ok (.iconst 0, 1) := by decide +kernel
theorem dL_refused_270 : decode cL_refused 270 = .ok (.invokestatic 112, 3) := by decide +kernel
theorem dL_refused_273 : decode cL_refused 273 = .ok (.ldc 17, 2) := by decide +kernel
theorem dL_refused_275 : decode cL_refused 275 = .ok (.if_icmp .ne 7, 3) := by decide +kernel
theorem dL_refused_278 : decode cL_refused 278 = .ok (.iconst 1, 1) := by decide +kernel
theorem dL_refused_279 : decode cL_refused 279 = .ok (.goto 4, 3) := by decide +kernel
theorem dL_refused_282 : decode cL_refused 282 = .ok (.iconst 0, 1) := by decide +kernel
theorem dL_refused_283 : decode cL_refused 283 = .ok (.istore 4, 2) := by decide +kernel
theorem dL_refused_285 : decode cL_refused 285 = .ok (.iload 4, 2) := by decide +kernel
theorem dL_refused_287 : decode cL_refused 287 = .ok (.ifCond .eq 215, 3) := by decide +kernel
theorem dL_refused_290 : decode cL_refused 290 = .ok (.aload_n 0, 1) := by decide +kernel
theorem dL_refused_291 : decode cL_refused 291 = .ok (.bipush 13, 2) := by decide +kernel
theorem dL_refused_293 : decode cL_refused 293 = .ok (.bipush 8, 2) := by decide +kernel
theorem dL_refused_295 : decode cL_refused 295 = .ok (.iconst 0, 1) := by decide +kernel
theorem dL_refused_296 : decode cL_refused 296 = .ok (.iconst 0, 1) := by decide +kernel
theorem dL_refused_297 : decode cL_refused 297 = .ok (.iconst 0, 1) := by decide +kernel
theorem dL_refused_298 : decode cL_refused 298 = .ok (.iconst 0, 1) := by decide +kernel
theorem dL_refused_299 : decode cL_refused 299 = .ok (.invokestatic 112, 3) := by decide +kernel
theorem dL_refused_302 : decode cL_refused 302 = .ok (.ldc 17, 2) := by decide +kernel
theorem dL_refused_304 : decode cL_refused 304 = .ok (.if_icmp .ne 198, 3) := by decide +kernel
theorem dL_refused_307 : decode cL_refused 307 = .ok (.aload_n 0, 1) := by decide +kernel
theorem dL_refused_308 : decode cL_refused 308 = .ok (.bipush 13, 2) := by decide +kernel
theorem dL_refused_310 : decode cL_refused 310 = .ok (.iconst 1, 1) := by decide +kernel
theorem dL_refused_311 : decode cL_refused 311 = .ok (.iconst 1, 1) := by decide +kernel
theorem dL_refused_312 : decode cL_refused 312 = .ok (.iconst 0, 1) := by decide +kernel
theorem dL_refused_313 : decode cL_refused 313 = .ok (.iconst 0, 1) := by decide +kernel
theorem dL_refused_314 : decode cL_refused 314 = .ok (.iconst 0, 1) := by decide +kernel
theorem dL_refused_315 : decode cL_refused 315 = .ok (.invokestatic 112, 3) := by decide +kernel
theorem dL_refused_318 : decode cL_refused 318 = .ok (.ldc 20, 2) := by decide +kernel
theorem dL_refused_320 : decode cL_refused 320 = .ok (.if_icmp .ne 182, 3) := by decide +kernel
theorem dL_refused_323 : decode cL_refused 323 = .ok (.aload_n 0, 1) := by decide +kernel
theorem dL_refused_324 : decode cL_refused 324 = .ok (.bipush 13, 2) := by decide +kernel
theorem dL_refused_326 : decode cL_refused 326 = .ok (.iconst 0, 1) := by decide +kernel
theorem dL_refused_327 : decode cL_refused 327 = .ok (.iconst 1, 1) := by decide +kernel
theorem dL_refused_328 : decode cL_refused 328 = .ok (.iconst (-1), 1) := by decide +kernel
theorem dL_refused_329 : decode cL_refused 329 = .ok (.iconst 0, 1) := by decide +kernel
theorem dL_refused_330 : decode cL_refused 330 = .ok (.iconst 0, 1) := by decide +kernel
theorem dL_refused_331 : decode cL_refused 331 = .ok (.invokestatic 112, 3) := by decide +kernel
theorem dL_refused_334 : decode cL_refused 334 = .ok (.ldc 20, 2) := by decide +kernel
theorem dL_refused_336 : decode cL_refused 336 = .ok (.if_icmp .ne 166, 3) := by decide +kernel
theorem dL_refused_339 : decode cL_refused 339 = .ok (.aload_n 0, 1) := by decide +kernel
theorem dL_refused_340 : decode cL_refused 340 = .ok (.bipush 14, 2) := by decide +kernel
theorem dL_refused_342 : decode cL_refused 342 = .ok (.bipush 60, 2) := by decide +kernel
theorem dL_refused_344 : decode cL_refused 344 = .ok (.iconst 0, 1) := by decide +kernel
theorem dL_refused_345 : decode cL_refused 345 = .ok (.iconst 0, 1) := by decide +kernel
theorem dL_refused_346 : decode cL_refused 346 = .ok (.iconst 0, 1) := by decide +kernel
theorem dL_refused_347 : decode cL_refused 347 = .ok (.iconst 0, 1) := by decide +kernel
theorem dL_refused_348 : decode cL_refused 348 = .ok (.invokestatic 112, 3) := by decide +kernel
theorem dL_refused_351 : decode cL_refused 351 = .ok (.ldc 17, 2) := by decide +kernel
theorem dL_refused_353 : decode cL_refused 353 = .ok (.if_icmp .ne 149, 3) := by decide +kernel
theorem dL_refused_356 : decode cL_refused 356 = .ok (.aload_n 0, 1) := by decide +kernel
theorem dL_refused_357 : decode cL_refused 357 = .ok (.bipush 15, 2) := by decide +kernel
theorem dL_refused_359 : decode cL_refused 359 = .ok (.iconst 0, 1) := by decide +kernel
theorem dL_refused_360 : decode cL_refused 360 = .ok (.iconst 0, 1) := by decide +kernel
theorem dL_refused_361 : decode cL_refused 361 = .ok (.iconst 0, 1) := by decide +kernel
theorem dL_refused_362 : decode cL_refused 362 = .ok (.iconst 0, 1) := by decide +kernel
theorem dL_refused_363 : decode cL_refused 363 = .ok (.iconst 0, 1) := by decide +kernel
theorem dL_refused_364 : decode cL_refused 364 = .ok (.invokestatic 112, 3) := by decide +kernel
theorem dL_refused_367 : decode cL_refused 367 = .ok (.ldc 20, 2) := by decide +kernel
theorem dL_refused_369 : decode cL_refused 369 = .ok (.if_icmp .ne 133, 3) := by decide +kernel
theorem dL_refused_372 : decode cL_refused 372 = .ok (.aload_n 0, 1) := by decide +kernel
theorem dL_refused_373 : decode cL_refused 373 = .ok (.bipush 16, 2) := by decide +kernel
theorem dL_refused_375 : decode cL_refused 375 = .ok (.bipush 101, 2) := by decide +kernel
theorem dL_refused_377 : decode cL_refused 377 = .ok (.iconst 0, 1) := by decide +kernel
theorem dL_refused_378 : decode cL_refused 378 = .ok (.iconst 0, 1) := by decide +kernel
theorem dL_refused_379 : decode cL_refused 379 = .ok (.iconst 0, 1) := by decide +kernel
theorem dL_refused_380 : decode cL_refused 380 = .ok (.iconst 0, 1) := by decide +kernel
theorem dL_refused_381 : decode cL_refused 381 = .ok (.invokestatic 112, 3) := by decide +kernel
theorem dL_refused_384 : decode cL_refused 384 = .ok (.ldc 20, 2) := by decide +kernel
theorem dL_refused_386 : decode cL_refused 386 = .ok (.if_icmp .ne 116, 3) := by decide +kernel
theorem dL_refused_389 : decode cL_refused 389 = .ok (.aload_n 0, 1) := by decide +kernel
theorem dL_refused_390 : decode cL_refused 390 = .ok (.bipush 17, 2) := by decide +kernel
theorem dL_refused_392 : decode cL_refused 392 = .ok (.bipush 60, 2) := by decide +kernel
theorem dL_refused_394 : decode cL_refused 394 = .ok (.iconst 0, 1) := by decide +kernel
theorem dL_refused_395 : decode cL_refused 395 = .ok (.iconst 0, 1) := by decide +kernel
theorem dL_refused_396 : decode cL_refused 396 = .ok (.iconst 0, 1) := by decide +kernel
theorem dL_refused_397 : decode cL_refused 397 = .ok (.iconst 0, 1) := by decide +kernel
theorem dL_refused_398 : decode cL_refused 398 = .ok (.invokestatic 112, 3) := by decide +kernel
theorem dL_refused_401 : decode cL_refused 401 = .ok (.ldc 17, 2) := by decide +kernel
theorem dL_refused_403 : decode cL_refused 403 = .ok (.if_icmp .ne 99, 3) := by decide +kernel
theorem dL_refused_406 : decode cL_refused 406 = .ok (.aload_n 0, 1) := by decide +kernel
theorem dL_refused_407 : decode cL_refused 407 = .ok (.bipush 18, 2) := by decide +kernel
theorem dL_refused_409 : decode cL_refused 409 = .ok (.iconst (-1), 1) := by decide +kernel
theorem dL_refused_410 : decode cL_refused 410 = .ok (.iconst 0, 1) := by decide +kernel
theorem dL_refused_411 : decode cL_refused 411 = .ok (.iconst 0, 1) := by decide +kernel
theorem dL_refused_412 : decode cL_refused 412 = .ok (.iconst 0, 1) := by decide +kernel
theorem dL_refused_413 : decode cL_refused 413 = .ok (.iconst 0, 1) := by decide +kernel
theorem dL_refused_414 : decode cL_refused 414 = .ok (.invokestatic 112, 3) := by decide +kernel
theorem dL_refused_417 : decode cL_refused 417 = .ok (.ldc 17, 2) := by decide +kernel
theorem dL_refused_419 : decode cL_refused 419 = .ok (.if_icmp .ne 83, 3) := by decide +kernel
theorem dL_refused_422 : decode cL_refused 422 = .ok (.aload_n 0, 1) := by decide +kernel
theorem dL_refused_423 : decode cL_refused 423 = .ok (.bipush 19, 2) := by decide +kernel
theorem dL_refused_425 : decode cL_refused 425 = .ok (.bipush 60, 2) := by decide +kernel
theorem dL_refused_427 : decode cL_refused 427 = .ok (.iconst 0, 1) := by decide +kernel
theorem dL_refused_428 : decode cL_refused 428 = .ok (.iconst 0, 1) := by decide +kernel
theorem dL_refused_429 : decode cL_refused 429 = .ok (.iconst 0, 1) := by decide +kernel
theorem dL_refused_430 : decode cL_refused 430 = .ok (.iconst 0, 1) := by decide +kernel
theorem dL_refused_431 : decode cL_refused 431 = .ok (.invokestatic 112, 3) := by decide +kernel
theorem dL_refused_434 : decode cL_refused 434 = .ok (.ldc 17, 2) := by decide +kernel
theorem dL_refused_436 : decode cL_refused 436 = .ok (.if_icmp .ne 66, 3) := by decide +kernel
theorem dL_refused_439 : decode cL_refused 439 = .ok (.aload_n 0, 1) := by decide +kernel
theorem dL_refused_440 : decode cL_refused 440 = .ok (.bipush 20, 2) := by decide +kernel
theorem dL_refused_442 : decode cL_refused 442 = .ok (.iconst (-1), 1) := by decide +kernel
theorem dL_refused_443 : decode cL_refused 443 = .ok (.iconst 0, 1) := by decide +kernel
theorem dL_refused_444 : decode cL_refused 444 = .ok (.iconst 0, 1) := by decide +kernel
theorem dL_refused_445 : decode cL_refused 445 = .ok (.iconst 0, 1) := by decide +kernel
theorem dL_refused_446 : decode cL_refused 446 = .ok (.iconst 0, 1) := by decide +kernel
theorem dL_refused_447 : decode cL_refused 447 = .ok (.invokestatic 112, 3) := by decide +kernel
theorem dL_refused_450 : decode cL_refused 450 = .ok (.ldc 17, 2) := by decide +kernel
theorem dL_refused_452 : decode cL_refused 452 = .ok (.if_icmp .ne 50, 3) := by decide +kernel
theorem dL_refused_455 : decode cL_refused 455 = .ok (.aload_n 0, 1) := by decide +kernel
theorem dL_refused_456 : decode cL_refused 456 = .ok (.bipush 21, 2) := by decide +kernel
theorem dL_refused_458 : decode cL_refused 458 = .ok (.bipush 8, 2) := by decide +kernel
theorem dL_refused_460 : decode cL_refused 460 = .ok (.iconst 0, 1) := by decide +kernel
theorem dL_refused_461 : decode cL_refused 461 = .ok (.iconst 0, 1) := by decide +kernel
theorem dL_refused_462 : decode cL_refused 462 = .ok (.iconst 0, 1) := by decide +kernel
theorem dL_refused_463 : decode cL_refused 463 = .ok (.iconst 0, 1) := by decide +kernel
theorem dL_refused_464 : decode cL_refused 464 = .ok (.invokestatic 112, 3) := by decide +kernel
theorem dL_refused_467 : decode cL_refused 467 = .ok (.ldc 17, 2) := by decide +kernel
theorem dL_refused_469 : decode cL_refused 469 = .ok (.if_icmp .ne 33, 3) := by decide +kernel
theorem dL_refused_472 : decode cL_refused 472 = .ok (.aload_n 0, 1) := by decide +kernel
theorem dL_refused_473 : decode cL_refused 473 = .ok (.bipush 22, 2) := by decide +kernel
theorem dL_refused_475 : decode cL_refused 475 = .ok (.iconst (-1), 1) := by decide +kernel
theorem dL_refused_476 : decode cL_refused 476 = .ok (.iconst 0, 1) := by decide +kernel
theorem dL_refused_477 : decode cL_refused 477 = .ok (.iconst 0, 1) := by decide +kernel
theorem dL_refused_478 : decode cL_refused 478 = .ok (.iconst 0, 1) := by decide +kernel
theorem dL_refused_479 : decode cL_refused 479 = .ok (.iconst 0, 1) := by decide +kernel
theorem dL_refused_480 : decode cL_refused 480 = .ok (.invokestatic 112, 3) := by decide +kernel
theorem dL_refused_483 : decode cL_refused 483 = .ok (.ldc 17, 2) := by decide +kernel
theorem dL_refused_485 : decode cL_refused 485 = .ok (.if_icmp .ne 17, 3) := by decide +kernel
theorem dL_refused_488 : decode cL_refused 488 = .ok (.aload_n 0, 1) := by decide +kernel
theorem dL_refused_489 : decode cL_refused 489 = .ok (.aload_n 1, 1) := by decide +kernel
theorem dL_refused_490 : decode cL_refused 490 = .ok (.invokestatic 127, 3) := by decide +kernel
theorem dL_refused_493 : decode cL_refused 493 = .ok (.lload_n 2, 1) := by decide +kernel
theorem dL_refused_494 : decode cL_refused 494 = .ok (.lcmp, 1) := by decide +kernel
theorem dL_refused_495 : decode cL_refused 495 = .ok (.ifCond .ne 7, 3) := by decide +kernel
theorem dL_refused_498 : decode cL_refused 498 = .ok (.iconst 1, 1) := by decide +kernel
theorem dL_refused_499 : decode cL_refused 499 = .ok (.goto 4, 3) := by decide +kernel
theorem dL_refused_502 : decode cL_refused 502 = .ok (.iconst 0, 1) := by decide +kernel
theorem dL_refused_503 : decode cL_refused 503 = .ok (.ireturn, 1) := by decide +kernel
theorem dL_law_0 : decode cL_law 0 = .ok (.new 25, 3) := by decide +kernel
theorem dL_law_3 : decode cL_law 3 = .ok (.dup, 1) := by decide +kernel
theorem dL_law_4 : decode cL_law 4 = .ok (.invokespecial 131, 3) := by decide +kernel
theorem dL_law_7 : decode cL_law 7 = .ok (.astore_n 1, 1) := by decide +kernel
theorem dL_law_8 : decode cL_law 8 = .ok (.new 25, 3) := by decide +kernel
theorem dL_law_11 : decode cL_law 11 = .ok (.dup, 1) := by decide +kernel
theorem dL_law_12 : decode cL_law 12 = .ok (.invokespecial 131, 3) := by decide +kernel
theorem dL_law_15 : decode cL_law 15 = .ok (.astore_n 2, 1) := by decide +kernel
theorem dL_law_16 : decode cL_law 16 = .ok (.bipush 48, 2) := by decide +kernel
theorem dL_law_18 : decode cL_law 18 = .ok (.newarray .int, 2) := by decide +kernel
theorem dL_law_20 : decode cL_law 20 = .ok (.astore_n 3, 1) := by decide +kernel
theorem dL_law_21 : decode cL_law 21 = .ok (.iconst 1, 1) := by decide +kernel
theorem dL_law_22 : decode cL_law 22 = .ok (.istore 4, 2) := by decide +kernel
theorem dL_law_24 : decode cL_law 24 = .ok (.iconst 0, 1) := by decide +kernel
theorem dL_law_25 : decode cL_law 25 = .ok (.istore 5, 2) := by decide +kernel
theorem dL_law_27 : decode cL_law 27 = .ok (.iload 5, 2) := by decide +kernel
theorem dL_law_29 : decode cL_law 29 = .ok (.iconst 4, 1) := by decide +kernel
theorem dL_law_30 : decode cL_law 30 = .ok (.if_icmp .ge 37, 3) := by decide +kernel
theorem dL_law_33 : decode cL_law 33 = .ok (.iload 4, 2) := by decide +kernel
theorem dL_law_35 : decode cL_law 35 = .ok (.ifCond .eq 32, 3) := by decide +kernel
theorem dL_law_38 : decode cL_law 38 = .ok (.aload_n 1, 1) := by decide +kernel
theorem dL_law_39 : decode cL_law 39 = .ok (.aload_n 2, 1) := by decide +kernel
theorem dL_law_40 : decode cL_law 40 = .ok (.iconst 4, 1) := by decide +kernel
theorem dL_law_41 : decode cL_law 41 = .ok (.iconst 0, 1) := by decide +kernel
theorem dL_law_42 : decode cL_law 42 = .ok (.iconst 0, 1) := by decide +kernel
theorem dL_law_43 : decode cL_law 43 = .ok (.iconst 0, 1) := by decide +kernel
theorem dL_law_44 : decode cL_law 44 = .ok (.iconst 0, 1) := by decide +kernel
theorem dL_law_45 : decode cL_law 45 = .ok (.iconst 0, 1) := by decide +kernel
theorem dL_law_46 : decode cL_law 46 = .ok (.invokestatic 120, 3) := by decide +kernel
theorem dL_law_49 : decode cL_law 49 = .ok (.iload 5, 2) := by decide +kernel
theorem dL_law_51 : decode cL_law 51 = .ok (.if_icmp .ne 7, 3) := by decide +kernel
theorem dL_law_54 : decode cL_law 54 = .ok (.iconst 1, 1) := by decide +kernel
theorem dL_law_55 : decode cL_law 55 = .ok (.goto 4, 3) := by decide +kernel
theorem dL_law_58 : decode cL_law 58 = .ok (.iconst 0, 1) := by decide +kernel
theorem dL_law_59 : decode cL_law 59 = .ok (.istore 4, 2) := by decide +kernel
theorem dL_law_61 : decode cL_law 61 = .ok (.iinc 5 1, 3) := by decide +kernel
theorem dL_law_64 : decode cL_law 64 = .ok (.goto (-37), 3) := by decide +kernel
theorem dL_law_67 : decode cL_law 67 = .ok (.aload_n 3, 1) := by decide +kernel
theorem dL_law_68 : decode cL_law 68 = .ok (.iconst 0, 1) := by decide +kernel
theorem dL_law_69 : decode cL_law 69 = .ok (.iconst 4, 1) := by decide +kernel
theorem dL_law_70 : decode cL_law 70 = .ok (.iastore, 1) := by decide +kernel
theorem dL_law_71 : decode cL_law 71 = .ok (.iconst 0, 1) := by decide +kernel
theorem dL_law_72 : decode cL_law 72 = .ok (.istore 5, 2) := by decide +kernel
theorem dL_law_74 : decode cL_law 74 = .ok (.iload 5, 2) := by decide +kernel
theorem dL_law_76 : decode cL_law 76 = .ok (.iconst 5, 1) := by decide +kernel
theorem dL_law_77 : decode cL_law 77 = .ok (.if_icmp .ge 103, 3) := by decide +kernel
theorem dL_law_80 : decode cL_law 80 = .ok (.iload 4, 2) := by decide +kernel
theorem dL_law_82 : decode cL_law 82 = .ok (.ifCond .eq 98, 3) := by decide +kernel
theorem dL_law_85 : decode cL_law 85 = .ok (.aload_n 0, 1) := by decide +kernel
theorem dL_law_86 : decode cL_law 86 = .ok (.iload 5, 2) := by decide +kernel
theorem dL_law_88 : decode cL_law 88 = .ok (.invokestatic 132, 3) := by decide +kernel
theorem dL_law_91 : decode cL_law 91 = .ok (.istore 6, 2) := by decide +kernel
theorem dL_law_93 : decode cL_law 93 = .ok (.aload_n 1, 1) := by decide +kernel
theorem dL_law_94 : decode cL_law 94 = .ok (.aload_n 2, 1) := by decide +kernel
theorem dL_law_95 : decode cL_law 95 = .ok (.iconst 0, 1) := by decide +kernel
theorem dL_law_96 : decode cL_law 96 = .ok (.iconst 1, 1) := by decide +kernel
theorem dL_law_97 : decode cL_law 97 = .ok (.iload 6, 2) := by decide +kernel
theorem dL_law_99 : decode cL_law 99 = .ok (.bipush 20, 2) := by decide +kernel
theorem dL_law_101 : decode cL_law 101 = .ok (.invokestatic 116, 3) := by decide +kernel
theorem dL_law_104 : decode cL_law 104 = .ok (.iadd, 1) := by decide +kernel
theorem dL_law_105 : decode cL_law 105 = .ok (.iconst 0, 1) := by decide +kernel
theorem dL_law_106 : decode cL_law 106 = .ok (.iconst 0, 1) := by decide +kernel
theorem dL_law_107 : decode cL_law 107 = .ok (.iconst 0, 1) := by decide +kernel
theorem dL_law_108 : decode cL_law 108 = .ok (.iconst 0, 1) := by decide +kernel
theorem dL_law_109 : decode cL_law 109 = .ok (.invokestatic 120, 3) := by decide +kernel
theorem dL_law_112 : decode cL_law 112 = .ok (.iload 5, 2) := by decide +kernel
theorem dL_law_114 : decode cL_law 114 = .ok (.if_icmp .ne 57, 3) := by decide +kernel
theorem dL_law_117 : decode cL_law 117 = .ok (.aload_n 1, 1) := by decide +kernel
theorem dL_law_118 : decode cL_law 118 = .ok (.aload_n 2, 1) := by decide +kernel
theorem dL_law_119 : decode cL_law 119 = .ok (.iconst 5, 1) := by decide +kernel
theorem dL_law_120 : decode cL_law 120 = .ok (.iload 5, 2) := by decide +kernel
theorem dL_law_122 : decode cL_law 122 = .ok (.iconst 4, 1) := by decide +kernel
theorem dL_law_123 : decode cL_law 123 = .ok (.irem, 1) := by decide +kernel
theorem dL_law_124 : decode cL_law 124 = .ok (.iload 5, 2) := by decide +kernel
theorem dL_law_126 : decode cL_law 126 = .ok (.iconst 1, 1) := by decide +kernel
theorem dL_law_127 : decode cL_law 127 = .ok (.iadd, 1) := by decide +kernel
theorem dL_law_128 : decode cL_law 128 = .ok (.iload 5, 2) := by decide +kernel
theorem dL_law_130 : decode cL_law 130 = .ok (.iconst 4, 1) := by decide +kernel
theorem dL_law_131 : decode cL_law 131 = .ok (.idiv, 1) := by decide +kernel
theorem dL_law_132 : decode cL_law 132 = .ok (.iadd, 1) := by decide +kernel
theorem dL_law_133 : decode cL_law 133 = .ok (.iconst 4, 1) := by decide +kernel
theorem dL_law_134 : decode cL_law 134 = .ok (.irem, 1) := by decide +kernel
theorem dL_law_135 : decode cL_law 135 = .ok (.iconst 1, 1) := by decide +kernel
theorem dL_law_136 : decode cL_law 136 = .ok (.iload 6, 2) := by decide +kernel
theorem dL_law_138 : decode cL_law 138 = .ok (.iconst 3, 1) := by decide +kernel
theorem dL_law_139 : decode cL_law 139 = .ok (.ishr, 1) := by decide +kernel
theorem dL_law_140 : decode cL_law 140 = .ok (.bipush 9, 2) := by decide +kernel
theorem dL_law_142 : decode cL_law 142 = .ok (.invokestatic 116, 3) := by decide +kernel
theorem dL_law_145 : decode cL_law 145 = .ok (.iadd, 1) := by decide +kernel
theorem dL_law_146 : decode cL_law 146 = .ok (.iconst 1, 1) := by decide +kernel
theorem dL_law_147 : decode cL_law 147 = .ok (.iload 6, 2) := by decide +kernel
theorem dL_law_149 : decode cL_law 149 = .ok (.bipush 7, 2) := by decide +kernel
theorem dL_law_151 : decode cL_law 151 = .ok (.ishr, 1) := by decide +kernel
theorem dL_law_152 : decode cL_law 152 = .ok (.bipush 9, 2) := by decide +kernel
theorem dL_law_154 : decode cL_law 154 = .ok (.invokestatic 116, 3) := by decide +kernel
theorem dL_law_157 : decode cL_law 157 = .ok (.iadd, 1) := by decide +kernel
theorem dL_law_158 : decode cL_law 158 = .ok (.iconst 0, 1) := by decide +kernel
theorem dL_law_159 : decode cL_law 159 = .ok (.invokestatic 120, 3) := by decide +kernel
theorem dL_law_162 : decode cL_law 162 = .ok (.iload 5, 2) := by decide +kernel
theorem dL_law_164 : decode cL_law 164 = .ok (.if_icmp .ne 7, 3) := by decide +kernel
theorem dL_law_167 : decode cL_law 167 = .ok (.iconst 1, 1) := by decide +kernel
theorem dL_law_168 : decode cL_law 168 = .ok (.goto 4, 3) := by decide +kernel
theorem dL_law_171 : decode cL_law 171 = .ok (.iconst 0, 1) := by decide +kernel
theorem dL_law_172 : decode cL_law 172 = .ok (.istore 4, 2) := by decide +kernel
theorem dL_law_174 : decode cL_law 174 = .ok (.iinc 5 1, 3) := by decide +kernel
theorem dL_law_177 : decode cL_law 177 = .ok (.goto (-103), 3) := by decide +kernel
theorem dL_law_180 : decode cL_law 180 = .ok (.aload_n 3, 1) := by decide +kernel
theorem dL_law_181 : decode cL_law 181 = .ok (.iconst 1, 1) := by decide +kernel
theorem dL_law_182 : decode cL_law 182 = .ok (.iconst 5, 1) := by decide +kernel
theorem dL_law_183 : decode cL_law 183 = .ok (.iastore, 1) := by decide +kernel
theorem dL_law_184 : decode cL_law 184 = .ok (.iload 4, 2) := by decide +kernel
theorem dL_law_186 : decode cL_law 186 = .ok (.ifCond .eq 15, 3) := by decide +kernel
theorem dL_law_189 : decode cL_law 189 = .ok (.aload_n 1, 1) := by decide +kernel
theorem dL_law_190 : decode cL_law 190 = .ok (.aload_n 3, 1) := by decide +kernel
theorem dL_law_191 : decode cL_law 191 = .ok (.invokestatic 136, 3) := by decide +kernel
theorem dL_law_194 : decode cL_law 194 = .ok (.ifCond .eq 7, 3) := by decide +kernel
theorem dL_law_197 : decode cL_law 197 = .ok (.iconst 1, 1) := by decide +kernel
theorem dL_law_198 : decode cL_law 198 = .ok (.goto 4, 3) := by decide +kernel
theorem dL_law_201 : decode cL_law 201 = .ok (.iconst 0, 1) := by decide +kernel
theorem dL_law_202 : decode cL_law 202 = .ok (.istore 4, 2) := by decide +kernel
theorem dL_law_204 : decode cL_law 204 = .ok (.iconst 0, 1) := by decide +kernel
theorem dL_law_205 : decode cL_law 205 = .ok (.istore 5, 2) := by decide +kernel
theorem dL_law_207 : decode cL_law 207 = .ok (.iload 5, 2) := by decide +kernel
theorem dL_law_209 : decode cL_law 209 = .ok (.bipush 80, 2) := by decide +kernel
theorem dL_law_211 : decode cL_law 211 = .ok (.if_icmp .ge 192, 3) := by decide +kernel
theorem dL_law_214 : decode cL_law 214 = .ok (.iload 4, 2) := by decide +kernel
theorem dL_law_216 : decode cL_law 216 = .ok (.ifCond .eq 187, 3) := by decide +kernel
theorem dL_law_219 : decode cL_law 219 = .ok (.aload_n 0, 1) := by decide +kernel
theorem dL_law_220 : decode cL_law 220 = .ok (.iconst 5, 1) := by decide +kernel
theorem dL_law_221 : decode cL_law 221 = .ok (.iconst 2, 1) := by decide +kernel
theorem dL_law_222 : decode cL_law 222 = .ok (.iload 5, 2) := by decide +kernel
theorem dL_law_224 : decode cL_law 224 = .ok (.imul, 1) := by decide +kernel
theorem dL_law_225 : decode cL_law 225 = .ok (.iadd, 1) := by decide +kernel
theorem dL_law_226 : decode cL_law 226 = .ok (.invokestatic 132, 3) := by decide +kernel
theorem dL_law_229 : decode cL_law 229 = .ok (.istore 6, 2) := by decide +kernel
theorem dL_law_231 : decode cL_law 231 = .ok (.aload_n 0, 1) := by decide +kernel
theorem dL_law_232 : decode cL_law 232 = .ok (.bipush 6, 2) := by decide +kernel
theorem dL_law_234 : decode cL_law 234 = .ok (.iconst 2, 1) := by decide +kernel
theorem dL_law_235 : decode cL_law 235 = .ok (.iload 5, 2) := by decide +kernel
theorem dL_law_237 : decode cL_law 237 = .ok (.imul, 1) := by decide +kernel
theorem dL_law_238 : decode cL_law 238 = .ok (.iadd, 1) := by decide +kernel
theorem dL_law_239 : decode cL_law 239 = .ok (.invokestatic 132, 3) := by decide +kernel
theorem dL_law_242 : decode cL_law 242 = .ok (.istore 7, 2) := by decide +kernel
theorem dL_law_244 : decode cL_law 244 = .ok (.iload 6, 2) := by decide +kernel
theorem dL_law_246 : decode cL_law 246 = .ok (.bipush 20, 2) := by decide +kernel
theorem dL_law_248 : decode cL_law 248 = .ok (.invokestatic 116, 3) := by decide +kernel
theorem dL_law_251 : decode cL_law 251 = .ok (.istore 8, 2) := by decide +kernel
theorem dL_law_253 : decode cL_law 253 = .ok (.iload 8, 2) := by decide +kernel
theorem dL_law_255 : decode cL_law 255 = .ok (.iconst 5, 1) := by decide +kernel
theorem dL_law_256 : decode cL_law 256 = .ok (.if_icmp .lt 10, 3) := by decide +kernel
theorem dL_law_259 : decode cL_law 259 = .ok (.iload 5, 2) := by decide +kernel
theorem dL_law_261 : decode cL_law 261 = .ok (.bipush 6, 2) := by decide +kernel
theorem dL_law_263 : decode cL_law 263 = .ok (.if_icmp .ge 18, 3) := by decide +kernel
theorem dL_law_266 : decode cL_law 266 = .ok (.aload_n 1, 1) := by decide +kernel
theorem dL_law_267 : decode cL_law 267 = .ok (.aload_n 2, 1) := by decide +kernel
theorem dL_law_268 : decode cL_law 268 = .ok (.aload_n 3, 1) := by decide +kernel
theorem dL_law_269 : decode cL_law 269 = .ok (.iload 6, 2) := by decide +kernel
theorem dL_law_271 : decode cL_law 271 = .ok (.iconst 5, 1) := by decide +kernel
theorem dL_law_272 : decode cL_law 272 = .ok (.ishr, 1) := by decide +kernel
theorem dL_law_273 : decode cL_law 273 = .ok (.iload 7, 2) := by decide +kernel
theorem dL_law_275 : decode cL_law 275 = .ok (.invokestatic 140, 3) := by decide +kernel
theorem dL_law_278 : decode cL_law 278 = .ok (.goto 59, 3) := by decide +kernel
theorem dL_law_281 : decode cL_law 281 = .ok (.iload 8, 2) := by decide +kernel
theorem dL_law_283 : decode cL_law 283 = .ok (.bipush 9, 2) := by decide +kernel
theorem dL_law_285 : decode cL_law 285 = .ok (.if_icmp .ge 18, 3) := by decide +kernel
theorem dL_law_288 : decode cL_law 288 = .ok (.aload_n 1, 1) := by decide +kernel
theorem dL_law_289 : decode cL_law 289 = .ok (.aload_n 2, 1) := by decide +kernel
theorem dL_law_290 : decode cL_law 290 = .ok (.aload_n 3, 1) := by decide +kernel
theorem dL_law_291 : decode cL_law 291 = .ok (.iload 6, 2) := by decide +kernel
theorem dL_law_293 : decode cL_law 293 = .ok (.iconst 5, 1) := by decide +kernel
theorem dL_law_294 : decode cL_law 294 = .ok (.ishr, 1) := by decide +kernel
theorem dL_law_295 : decode cL_law 295 = .ok (.iload 7, 2) := by decide +kernel
theorem dL_law_297 : decode cL_law 297 = .ok (.invokestatic 144, 3) := by decide +kernel
theorem dL_law_300 : decode cL_law 300 = .ok (.goto 37, 3) := by decide +kernel
theorem dL_law_303 : decode cL_law 303 = .ok (.iload 8, 2) := by decide +kernel
theorem dL_law_305 : decode cL_law 305 = .ok (.bipush 15, 2) := by decide +kernel
theorem dL_law_307 : decode cL_law 307 = .ok (.if_icmp .ge 18, 3) := by decide +kernel
theorem dL_law_310 : decode cL_law 310 = .ok (.aload_n 1, 1) := by decide +kernel
theorem dL_law_311 : decode cL_law 311 = .ok (.aload_n 2, 1) := by decide +kernel
theorem dL_law_312 : decode cL_law 312 = .ok (.aload_n 3, 1) := by decide +kernel
theorem dL_law_313 : decode cL_law 313 = .ok (.iload 6, 2) := by decide +kernel
theorem dL_law_315 : decode cL_law 315 = .ok (.iconst 5, 1) := by decide +kernel
theorem dL_law_316 : decode cL_law 316 = .ok (.ishr, 1) := by decide +kernel
theorem dL_law_317 : decode cL_law 317 = .ok (.iload 7, 2) := by decide +kernel
theorem dL_law_319 : decode cL_law 319 = .ok (.invokestatic 147, 3) := by decide +kernel
theorem dL_law_322 : decode cL_law 322 = .ok (.goto 15, 3) := by decide +kernel
theorem dL_law_325 : decode cL_law 325 = .ok (.aload_n 1, 1) := by decide +kernel
theorem dL_law_326 : decode cL_law 326 = .ok (.aload_n 2, 1) := by decide +kernel
theorem dL_law_327 : decode cL_law 327 = .ok (.aload_n 3, 1) := by decide +kernel
theorem dL_law_328 : decode cL_law 328 = .ok (.iload 6, 2) := by decide +kernel
theorem dL_law_330 : decode cL_law 330 = .ok (.iconst 5, 1) := by decide +kernel
theorem dL_law_331 : decode cL_law 331 = .ok (.ishr, 1) := by decide +kernel
theorem dL_law_332 : decode cL_law 332 = .ok (.iload 7, 2) := by decide +kernel
theorem dL_law_334 : decode cL_law 334 = .ok (.invokestatic 150, 3) := by decide +kernel
theorem dL_law_337 : decode cL_law 337 = .ok (.istore 4, 2) := by decide +kernel
theorem dL_law_339 : decode cL_law 339 = .ok (.iload 4, 2) := by decide +kernel
theorem dL_law_341 : decode cL_law 341 = .ok (.ifCond .eq 53, 3) := by decide +kernel
theorem dL_law_344 : decode cL_law 344 = .ok (.iload 5, 2) := by decide +kernel
theorem dL_law_346 : decode cL_law 346 = .ok (.bipush 20, 2) := by decide +kernel
theorem dL_law_348 : decode cL_law 348 = .ok (.irem, 1) := by decide +kernel
theorem dL_law_349 : decode cL_law 349 = .ok (.ifCond .gt 25, 3) := by decide +kernel
theorem dL_law_352 : decode cL_law 352 = .ok (.aload_n 1, 1) := by decide +kernel
theorem dL_law_353 : decode cL_law 353 = .ok (.aload_n 3, 1) := by decide +kernel
theorem dL_law_354 : decode cL_law 354 = .ok (.invokestatic 127, 3) := by decide +kernel
theorem dL_law_357 : decode cL_law 357 = .ok (.aload_n 2, 1) := by decide +kernel
theorem dL_law_358 : decode cL_law 358 = .ok (.aload_n 3, 1) := by decide +kernel
theorem dL_law_359 : decode cL_law 359 = .ok (.invokestatic 127, 3) := by decide +kernel
theorem dL_law_362 : decode cL_law 362 = .ok (.lcmp, 1) := by decide +kernel
theorem dL_law_363 : decode cL_law 363 = .ok (.ifCond .ne 31, 3) := by decide +kernel
theorem dL_law_366 : decode cL_law 366 = .ok (.aload_n 1, 1) := by decide +kernel
theorem dL_law_367 : decode cL_law 367 = .ok (.aload_n 3, 1) := by decide +kernel
theorem dL_law_368 : decode cL_law 368 = .ok (.invokestatic 153, 3) := by decide +kernel
theorem dL_law_371 : decode cL_law 371 = .ok (.ifCond .eq 23, 3) := by decide +kernel
theorem dL_law_374 : decode cL_law 374 = .ok (.iload 5, 2) := by decide +kernel
theorem dL_law_376 : decode cL_law 376 = .ok (.bipush 40, 2) := by decide +kernel
theorem dL_law_378 : decode cL_law 378 = .ok (.irem, 1) := by decide +kernel
theorem dL_law_379 : decode cL_law 379 = .ok (.ifCond .gt 11, 3) := by decide +kernel
theorem dL_law_382 : decode cL_law 382 = .ok (.aload_n 1, 1) := by decide +kernel
theorem dL_law_383 : decode cL_law 383 = .ok (.aload_n 3, 1) := by decide +kernel
theorem dL_law_384 : decode cL_law 384 = .ok (.invokestatic 136, 3) := by decide +kernel
theorem dL_law_387 : decode cL_law 387 = .ok (.ifCond .eq 7, 3) := by decide +kernel
theorem dL_law_390 : decode cL_law 390 = .ok (.iconst 1, 1) := by decide +kernel
theorem dL_law_391 : decode cL_law 391 = .ok (.goto 4, 3) := by decide +kernel
theorem dL_law_394 : decode cL_law 394 = .ok (.iconst 0, 1) := by decide +kernel
theorem dL_law_395 : decode cL_law 395 = .ok (.istore 4, 2) := by decide +kernel
theorem dL_law_397 : decode cL_law 397 = .ok (.iinc 5 1, 3) := by decide +kernel
theorem dL_law_400 : decode cL_law 400 = .ok (.goto (-193), 3) := by decide +kernel
theorem dL_law_403 : decode cL_law 403 = .ok (.iload 4, 2) := by decide +kernel
theorem dL_law_405 : decode cL_law 405 = .ok (.ifCond .eq 29, 3) := by decide +kernel
theorem dL_law_408 : decode cL_law 408 = .ok (.aload_n 1, 1) := by decide +kernel
theorem dL_law_409 : decode cL_law 409 = .ok (.aload_n 3, 1) := by decide +kernel
theorem dL_law_410 : decode cL_law 410 = .ok (.invokestatic 127, 3) := by decide +kernel
theorem dL_law_413 : decode cL_law 413 = .ok (.aload_n 2, 1) := by decide +kernel
theorem dL_law_414 : decode cL_law 414 = .ok (.aload_n 3, 1) := by decide +kernel
theorem dL_law_415 : decode cL_law 415 = .ok (.invokestatic 127, 3) := by decide +kernel
theorem dL_law_418 : decode cL_law 418 = .ok (.lcmp, 1) := by decide +kernel
theorem dL_law_419 : decode cL_law 419 = .ok (.ifCond .ne 15, 3) := by decide +kernel
theorem dL_law_422 : decode cL_law 422 = .ok (.aload_n 1, 1) := by decide +kernel
theorem dL_law_423 : decode cL_law 423 = .ok (.aload_n 3, 1) := by decide +kernel
theorem dL_law_424 : decode cL_law 424 = .ok (.invokestatic 153, 3) := by decide +kernel
theorem dL_law_427 : decode cL_law 427 = .ok (.ifCond .eq 7, 3) := by decide +kernel
theorem dL_law_430 : decode cL_law 430 = .ok (.iconst 1, 1) := by decide +kernel
theorem dL_law_431 : decode cL_law 431 = .ok (.goto 4, 3) := by decide +kernel
theorem dL_law_434 : decode cL_law 434 = .ok (.iconst 0, 1) := by decide +kernel
theorem dL_law_435 : decode cL_law 435 = .ok (.ireturn, 1) := by decide +kernel
